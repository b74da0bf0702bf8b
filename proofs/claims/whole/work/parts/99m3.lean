/-! TASKS, in both: one comes -/
def nvL (g : Int → Int) (fr : Int) : Nat → Int
  | 0 => 0
  | k + 1 => 10 * nvL g fr k + g (fr + k) - 48
def JTk (n : NS) (m : YS) : Prop :=
  (n 0 0 5 = m 166 0 ∧ 0 ≤ m 166 0 ∧ m 166 0 ≤ 20)
  ∧ (∀ i, 0 ≤ i → i < 20 → 611 ≤ n 45 0 i ∧ n 45 0 i ≤ 630) ∧ (∀ i j, 0 ≤ i → i < 20 → 0 ≤ j → j < 20 → n 45 0 i = n 45 0 j → i = j)
  ∧ (∀ i, 0 ≤ i → i < m 166 0 → n 44 0 (2 * i) = m 168 i ∧ MkR (n 44 0 (2 * i + 1)) (m 170 i) (m 171 i) ∧ (0 ≤ m 172 i ∧ m 172 i ≤ 60) ∧ bt n (n 45 0 i) = sg (m 173) (60 * i) (m 172 i).toNat ∧ (∀ c ∈ sg (m 173) (60 * i) (m 172 i).toNat, isTx c) ∧ m 169 i < m 167 0)
  ∧ (∀ i j, 0 ≤ i → i < j → j < m 166 0 → m 169 i < m 169 j) ∧ 0 ≤ m 167 0
section M3
variable {n n' : NS} {m m' : YS} {A B N k v d fr to L i c st q : Int} {g : Int → Int} {w x : List Int}
theorem nvL_b (hd : ∀ j, fr ≤ j → j < fr + 4 → j < to → isDg (g j)) : ∀ k : Nat, k ≤ 4 → fr + (k : Int) ≤ to → 0 ≤ nvL g fr k ∧ nvL g fr k < 10 ^ k := by
  intro k
  induction k with
  | zero => intro _ _; exact ⟨Int.le_refl _, by show (0 : Int) < 10 ^ 0; decide⟩
  | succ k ih =>
    intro h1 h2
    have := ih (by omega) (by omega)
    have hg := hd (fr + k) (by omega) (by omega) (by omega)
    unfold isDg at hg
    show 0 ≤ 10 * nvL g fr k + g (fr + k) - 48 ∧ 10 * nvL g fr k + g (fr + k) - 48 < 10 ^ (k + 1)
    have : (10 : Int) ^ (k + 1) = 10 * 10 ^ k := by rw [Int.pow_succ, Int.mul_comm]
    omega
theorem c_num (hs : tx n d g L) (hf : 0 ≤ fr ∧ fr ≤ st ∧ st ≤ L ∧ L ≤ 2000) : ∃ r, N_Bytes_number d fr st n = some r ∧ (((1 ≤ st - fr ∧ st - fr ≤ 4 ∧ ∀ j, fr ≤ j → j < st → isDg (g j)) ∧ r = nvL g fr (st - fr).toNat ∧ 0 ≤ r ∧ r ≤ 9999) ∨ (¬ (1 ≤ st - fr ∧ st - fr ≤ 4 ∧ ∀ j, fr ≤ j → j < st → isDg (g j)) ∧ r = -1)) := by
  have : ev (N_Bytes_number d fr st n) (fun r => (((1 ≤ st - fr ∧ st - fr ≤ 4 ∧ ∀ j, fr ≤ j → j < st → isDg (g j)) ∧ r = nvL g fr (st - fr).toNat ∧ 0 ≤ r ∧ r ≤ 9999) ∨ (¬ (1 ≤ st - fr ∧ st - fr ≤ 4 ∧ ∀ j, fr ≤ j → j < st → isDg (g j)) ∧ r = -1))) := by
    unfold N_Bytes_number
    refine ev_ck (by omega) (ev_if (fun h1 => ev_ok (.inr ⟨fun z => by omega, rfl⟩)) (fun h1 => ev_ck (by omega) (ev_if (fun h4 => ev_ok (.inr ⟨fun z => by omega, rfl⟩)) (fun h4 => ?_))))
    refine ev_bs (P := fun _ => ¬ ∀ j, fr ≤ j → j < st → isDg (g j)) (R := fun r => (∀ j, fr ≤ j → j < st → isDg (g j)) ∧ r = nvL g fr (st - fr).toNat) ?_ (fun r hr => ev_ok (.inr ⟨fun z => hr z.2.2, rfl⟩)) (fun r hr => ev_ok (.inl ⟨⟨by omega, by omega, hr.1⟩, hr.2, ?_⟩))
    · unfold NL_Bytes_number_21
      refine ev_it (fun t : Int × Int => (fr ≤ t.2 ∧ t.2 ≤ st) ∧ (∀ j, fr ≤ j → j < t.2 → isDg (g j)) ∧ t.1 = nvL g fr (t.2 - fr).toNat) (fun t => st - t.2) (fun t ht => ?_) ⟨⟨Int.le_refl _, hf.2.1⟩, fun j a b => by have b : j < fr := b; omega, by show (0 : Int) = nvL g fr (fr - fr).toNat; rw [show (fr - fr).toNat = 0 by omega]; rfl⟩
      obtain ⟨z, t⟩ := t
      obtain ⟨g1, g2, g3⟩ := ht
      simp only at g1 g2 g3
      show ev (nb_Bytes_number_21 d st z t n) _
      unfold nb_Bytes_number_21
      refine ev_if (fun hlt => ev_tx hs ⟨by omega, by omega⟩ (fun e => ?_)) (fun hge => ev_inr ⟨fun j a b => g2 j a (by omega), by rw [g3, show t = st by omega]⟩)
      rw [e]
      refine ev_bz cs_digit (fun hp => ?_) (fun hp => ?_)
      · rw [if_neg (by decide)]
        have hb := nvL_b (g := g) (fr := fr) (to := t) (fun j a _ c => g2 j a c) (t - fr).toNat (by omega) (by omega)
        have h10 : (10 : Int) ^ (t - fr).toNat ≤ 1000 := by
          have : (t - fr).toNat ≤ 3 := by omega
          rcases (show (t - fr).toNat = 0 ∨ (t - fr).toNat = 1 ∨ (t - fr).toNat = 2 ∨ (t - fr).toNat = 3 by omega) with y | y | y | y <;> rw [y] <;> decide
        have hdg := hp
        unfold isDg at hdg
        rw [← g3] at hb
        refine ev_ck (by omega) (ev_dx ⟨hs.1, by omega, by have := hs.2.1; omega⟩ ?_)
        refine ev_ck (by omega) (ev_ck (by omega) (ev_ck (by omega) (ev_inl ⟨⟨by show fr ≤ t + 1 ∧ t + 1 ≤ st; omega, fun j a b => ?_, ?_⟩, by show st - (t + 1) < st - t; omega, by show 0 ≤ st - t; omega⟩)))
        · have b : j < t + 1 := b
          by_cases y : j = t
          · rw [y]; exact hp
          · exact g2 j a (by omega)
        · show z * 10 + g t - 48 = nvL g fr (t + 1 - fr).toNat
          rw [show (t + 1 - fr).toNat = (t - fr).toNat + 1 by omega]
          show _ = 10 * nvL g fr (t - fr).toNat + g (fr + ((t - fr).toNat : Int)) - 48
          rw [← g3, show fr + (((t - fr).toNat : Nat) : Int) = t by omega]; omega
      · rw [if_pos rfl]
        exact ev_inr (show ¬ _ from fun z => hp (z t g1.1 hlt))
    · have hb := nvL_b (g := g) (fr := fr) (to := st) (fun j a _ c => hr.1 j a c) (st - fr).toNat (by omega) (by omega)
      have h10 : (10 : Int) ^ (st - fr).toNat ≤ 10000 := by
        rcases (show (st - fr).toNat = 0 ∨ (st - fr).toNat = 1 ∨ (st - fr).toNat = 2 ∨ (st - fr).toNat = 3 ∨ (st - fr).toNat = 4 by omega) with y | y | y | y | y <;> rw [y] <;> decide
      rw [hr.2]; omega
  obtain ⟨r, er, hr⟩ := this
  exact ⟨r, er, hr⟩
theorem y_num (hf : 0 ≤ fr ∧ fr ≤ to ∧ to ≤ 2000) : ev (NL_Y_waitStep_5 fr to fr 0 m) (fun t => (fr ≤ t.1 ∧ t.1 ≤ to ∧ t.1 ≤ fr + 4) ∧ (∀ j, fr ≤ j → j < t.1 → isDg (m 159 j)) ∧ t.2 = nvL (m 159) fr (t.1 - fr).toNat ∧ (t.1 < to → t.1 < fr + 4 → ¬ isDg (m 159 t.1))) := by
  unfold NL_Y_waitStep_5
  refine ev_it (fun t : Int × Int => (fr ≤ t.1 ∧ t.1 ≤ to ∧ t.1 ≤ fr + 4) ∧ (∀ j, fr ≤ j → j < t.1 → isDg (m 159 j)) ∧ t.2 = nvL (m 159) fr (t.1 - fr).toNat) (fun t => to - t.1) (fun t ht => ?_) ⟨by show fr ≤ fr ∧ fr ≤ to ∧ fr ≤ fr + 4; omega, fun j a b => by have b : j < fr := b; omega, by show (0 : Int) = nvL (m 159) fr (fr - fr).toNat; rw [show (fr - fr).toNat = 0 by omega]; rfl⟩
  obtain ⟨t, z⟩ := t
  obtain ⟨g1, g2, g3⟩ := ht
  simp only at g1 g2 g3
  show ev (nb_Y_waitStep_5 fr to t z m) _
  unfold nb_Y_waitStep_5
  refine ev_if (fun hlt => ev_ix (by omega) (ev_bz ys_digit (fun hp => ?_) (fun hp => ?_))) (fun hge => ev_inr ⟨g1, g2, g3, fun y => by have y : t < to := y; omega⟩)
  · rw [if_neg (by decide)]
    refine ev_ck (by omega) (ev_if (fun h4 => ?_) (fun h4 => ev_inr ⟨g1, g2, g3, fun _ y => by have y : t < fr + 4 := y; omega⟩))
    have hb := nvL_b (g := m 159) (fr := fr) (to := t) (fun j a _ c => g2 j a c) (t - fr).toNat (by omega) (by omega)
    have h10 : (10 : Int) ^ (t - fr).toNat ≤ 1000 := by
      rcases (show (t - fr).toNat = 0 ∨ (t - fr).toNat = 1 ∨ (t - fr).toNat = 2 ∨ (t - fr).toNat = 3 by omega) with y | y | y | y <;> rw [y] <;> decide
    have hdg := hp
    unfold isDg at hdg
    rw [← g3] at hb
    refine ev_ck (by omega) (ev_ix (by omega) (ev_ck (by omega) (ev_ck (by omega) (ev_ck (by omega) (ev_inl ⟨⟨by show fr ≤ t + 1 ∧ t + 1 ≤ to ∧ t + 1 ≤ fr + 4; omega, fun j a b => ?_, ?_⟩, by show to - (t + 1) < to - t; omega, by show 0 ≤ to - t; omega⟩)))))
    · have b : j < t + 1 := b
      by_cases y : j = t
      · rw [y]; exact hp
      · exact g2 j a (by omega)
    · show 10 * z + m 159 t - 48 = nvL (m 159) fr (t + 1 - fr).toNat
      rw [show (t + 1 - fr).toNat = (t - fr).toNat + 1 by omega]
      show _ = 10 * nvL (m 159) fr (t - fr).toNat + m 159 (fr + ((t - fr).toNat : Int)) - 48
      rw [← g3, show fr + (((t - fr).toNat : Nat) : Int) = t by omega]
  · rw [if_pos rfl]
    exact ev_inr ⟨g1, g2, g3, fun _ _ => hp⟩
theorem nvL_cg {g' : Int → Int} : ∀ k : Nat, (∀ j, fr ≤ j → j < fr + (k : Int) → g j = g' j) → nvL g fr k = nvL g' fr k := by
  intro k
  induction k with
  | zero => intro _; rfl
  | succ k ih =>
    intro h
    show 10 * nvL g fr k + g (fr + k) - 48 = 10 * nvL g' fr k + g' (fr + k) - 48
    rw [ih (fun j a b => h j a (by omega)), h (fr + k) (by omega) (by omega)]
end M3
