/-! STYLE SHEETS: values in the reference; which PROPERTY -/
section T2
variable {n : NS} {m m' : YS} {g : Int → Int} {p a b c d i e to L x y r v k j : Int} {l : List Int}
theorem y47 {W : Int} (hw : N_Y_wordOf p j m = some W) (hW : 0 < W ∧ W < 36893488147419103232) (hj : 0 ≤ j ∧ j ≤ 10) (h0 : 0 ≤ b ∧ b ≤ k ∧ k ≤ 400) : nb_Y_readValue_47 p b k j m = if sg (m 101) b (k - b).toNat = wl W then some (.inr (.inl j)) else some (.inl (j + 1)) := by
  unfold nb_Y_readValue_47
  rw [hw]
  simp only [Option.bind_some]
  rw [if_neg (by omega)]
  have := y_wordIs (m := m) (a := b) (b := k) (W := W) (w := wl W) ⟨by omega, hW.2⟩ rfl h0 (X := (some (.inl (j + 1)) : Option (Int ⊕ (Int ⊕ Unit)))) (Y := some (.inr (.inl j)))
  rw [← this]
  rw [ck_e (a := j + 1) _ (by omega)]
theorem y47_loop (h0 : 0 ≤ b ∧ b ≤ k ∧ k ≤ 400) : ∀ (Ws : List Int) (j : Int), 0 ≤ j → j + Ws.length ≤ 10 → (∀ i : Nat, i < Ws.length → N_Y_wordOf p (j + i) m = some (Ws.getD i 0) ∧ 0 < Ws.getD i 0 ∧ Ws.getD i 0 < 36893488147419103232) → N_Y_wordOf p (j + Ws.length) m = some 0 → NL_Y_readValue_47 p b k j m = if wpF (Ws.map wl) (sg (m 101) b (k - b).toNat) j = -1 then some (.inr ()) else some (.inl (wpF (Ws.map wl) (sg (m 101) b (k - b).toNat) j)) := by
  intro Ws
  induction Ws with
  | nil =>
    intro j j0 jl hW hz
    show _ = if (-1 : Int) = -1 then _ else _
    rw [if_pos rfl]
    unfold NL_Y_readValue_47
    refine it_inr ?_
    show nb_Y_readValue_47 p b k j m = _
    unfold nb_Y_readValue_47
    have hz : N_Y_wordOf p (j + ((0 : Nat) : Int)) m = some 0 := hz
    rw [show j + ((0 : Nat) : Int) = j by omega] at hz
    rw [hz]
    simp only [Option.bind_some]
    rw [if_pos trivial]
  | cons W Ws ih =>
    intro j j0 jl hW hz
    rw [List.length_cons] at jl hz
    have h1 := hW 0 (by rw [List.length_cons]; omega)
    have h1 : N_Y_wordOf p (j + ((0 : Nat) : Int)) m = some W ∧ 0 < W ∧ W < 36893488147419103232 := h1
    rw [show j + ((0 : Nat) : Int) = j by omega] at h1
    have eb := y47 (b := b) (k := k) h1.1 h1.2 (by omega) h0
    show _ = if (if sg (m 101) b (k - b).toNat = wl W then j else wpF (Ws.map wl) (sg (m 101) b (k - b).toNat) (j + 1)) = -1 then _ else (some (Sum.inl (if sg (m 101) b (k - b).toNat = wl W then j else wpF (Ws.map wl) (sg (m 101) b (k - b).toNat) (j + 1))) : Option (Int ⊕ Unit))
    by_cases z : sg (m 101) b (k - b).toNat = wl W
    · rw [if_pos z] at eb ⊢
      rw [if_neg (by omega)]
      unfold NL_Y_readValue_47
      exact it_inr eb
    · rw [if_neg z] at eb ⊢
      have E : NL_Y_readValue_47 p b k j m = NL_Y_readValue_47 p b k (j + 1) m := by
        unfold NL_Y_readValue_47
        exact it_inl (f := fun t : Int => nb_Y_readValue_47 p b k t m) (s := j) eb
      rw [E]
      refine ih (j + 1) (by omega) (by omega) (fun i hi => ?_) ?_
      · have := hW (i + 1) (by rw [List.length_cons]; omega)
        rw [show j + ((i + 1 : Nat) : Int) = j + 1 + i by omega] at this
        exact this
      · rw [show j + ((Ws.length + 1 : Nat) : Int) = j + 1 + Ws.length by omega] at hz
        exact hz
theorem y_wordV (hp : isWp p) (h0 : 0 ≤ b ∧ b ≤ k ∧ k ≤ 400) : NL_Y_readValue_47 p b k 0 m = if wpF (vwN p) (sg (m 101) b (k - b).toNat) 0 = -1 then some (.inr ()) else some (.inl (wpF (vwN p) (sg (m 101) b (k - b).toNat) 0)) := by
  have hp' := hp
  unfold isWp at hp'
  have e1 : (vwW p).map wl = vwN p := by
    unfold vwW vwN
    by_cases z : p = 0
    · rw [if_pos z, if_pos z]; decide
    · rw [if_neg z, if_neg z]
      by_cases y : p = 9
      · rw [if_pos y, if_pos y]; decide
      · rw [if_neg y, if_neg y]; decide
  rw [← e1]
  have w1 : ∀ i : Nat, i < (vwW p).length → N_Y_wordOf p (0 + i) m = some ((vwW p).getD i 0) ∧ 0 < (vwW p).getD i 0 ∧ (vwW p).getD i 0 < 36893488147419103232 := fun i hi => by
    unfold vwW at *
    unfold N_Y_wordOf
    by_cases z : p = 0
    · rw [if_pos z] at hi ⊢
      have hi : i < 4 := hi
      rw [if_pos z]
      rcases (show i = 0 ∨ i = 1 ∨ i = 2 ∨ i = 3 by omega) with y | y | y | y <;> rw [y] <;> decide
    · rw [if_neg z] at hi ⊢
      rw [if_neg z]
      by_cases y : p = 9
      · rw [if_pos y] at hi ⊢
        have hi : i < 3 := hi
        rw [if_pos y]
        rcases (show i = 0 ∨ i = 1 ∨ i = 2 by omega) with y | y | y <;> rw [y] <;> decide
      · rw [if_neg y] at hi ⊢
        have hi : i < 3 := hi
        rw [if_neg y]
        rcases (show i = 0 ∨ i = 1 ∨ i = 2 by omega) with y | y | y <;> rw [y] <;> decide
  have w2 : N_Y_wordOf p (0 + (vwW p).length) m = some 0 ∧ (vwW p).length ≤ 4 := by
    unfold vwW N_Y_wordOf
    by_cases z : p = 0
    · rw [if_pos z, if_pos z]; decide
    · rw [if_neg z, if_neg z]
      by_cases y : p = 9
      · rw [if_pos y, if_pos y]; decide
      · rw [if_neg y, if_neg y]; decide
  exact y47_loop h0 (vwW p) 0 (Int.le_refl _) (by have := w2.2; omega) w1 w2.1
/-- the digits of a value -/
theorem y_digs (h0 : 0 ≤ b ∧ b ≤ to ∧ to ≤ 400) (htx : ∀ j, b ≤ j → j < to → isTx (m 101 j)) : ev (NL_Y_readValue_107 p b to b 0 m) (fun t => (b ≤ t.1 ∧ t.1 ≤ to ∧ t.1 ≤ b + 4) ∧ (∀ j, b ≤ j → j < t.1 → isDg (m 101 j)) ∧ t.2 = nvL (m 101) b (t.1 - b).toNat ∧ (t.1 < to → t.1 < b + 4 → ¬ isDg (m 101 t.1))) := by
  unfold NL_Y_readValue_107
  refine ev_it (fun t : Int × Int => (b ≤ t.1 ∧ t.1 ≤ to ∧ t.1 ≤ b + 4) ∧ (∀ j, b ≤ j → j < t.1 → isDg (m 101 j)) ∧ t.2 = nvL (m 101) b (t.1 - b).toNat) (fun t => to - t.1) (fun t ht => ?_) ⟨by show b ≤ b ∧ b ≤ to ∧ b ≤ b + 4; omega, fun j x y => by have y : j < b := y; omega, by show (0 : Int) = nvL (m 101) b (b - b).toNat; rw [show (b - b).toNat = 0 by omega]; rfl⟩
  obtain ⟨t, z⟩ := t
  obtain ⟨g1, g2, g3⟩ := ht
  simp only at g1 g2 g3
  show ev (nb_Y_readValue_107 p b to t z m) _
  unfold nb_Y_readValue_107
  refine ev_if (fun hlt => ev_ix (by omega) (ev_bz ys_digit (fun hp => ?_) (fun hp => ?_))) (fun hge => ev_inr ⟨g1, g2, g3, fun y => by have y : t < to := y; omega⟩)
  · rw [if_neg (by decide)]
    have hb := nvL_b (g := m 101) (fr := b) (to := t) (fun j a _ c => g2 j a c) (t - b).toNat (by omega) (by omega)
    have h10 : (10 : Int) ^ (t - b).toNat ≤ 10000 := by
      rcases (show (t - b).toNat = 0 ∨ (t - b).toNat = 1 ∨ (t - b).toNat = 2 ∨ (t - b).toNat = 3 ∨ (t - b).toNat = 4 by omega) with y | y | y | y | y <;> rw [y] <;> decide
    rw [← g3] at hb
    have hp' := hp
    unfold isDg at hp'
    refine ev_ck (by omega) (ev_if (fun h4 => ?_) (fun h4 => ev_inr ⟨g1, g2, g3, fun _ y => by have y : t < b + 4 := y; omega⟩))
    refine ev_ck (by omega) (ev_ix (by omega) (ev_ck (by omega) (ev_ck (by omega) (ev_ck (by omega) (ev_inl ⟨⟨by show b ≤ t + 1 ∧ t + 1 ≤ to ∧ t + 1 ≤ b + 4; omega, fun j x y => ?_, ?_⟩, by show to - (t + 1) < to - t; omega, by show 0 ≤ to - t; omega⟩)))))
    · have y : j < t + 1 := y
      by_cases w : j = t
      · rw [w]; exact hp
      · exact g2 j x (by omega)
    · show 10 * z + m 101 t - 48 = nvL (m 101) b (t + 1 - b).toNat
      rw [show (t + 1 - b).toNat = (t - b).toNat + 1 by omega]
      show _ = 10 * nvL (m 101) b (t - b).toNat + m 101 (b + ((t - b).toNat : Int)) - 48
      rw [← g3, show b + (((t - b).toNat : Nat) : Int) = t by omega]
  · rw [if_pos rfl]
    exact ev_inr ⟨g1, g2, g3, fun _ _ => hp⟩
/-- a value, in the reference -/
theorem y_valueS (hg : m 101 = g) (h0 : 0 ≤ b ∧ b ≤ to ∧ to ≤ 400) (htx : ∀ j, b ≤ j → j < to → isTx (g j)) (hp : 0 ≤ p ∧ p ≤ 10) : ev (N_Y_readValue p b to m) (fun x => FY [104] m x.2 ∧ ((x.1 = -1 ∧ ∀ e v, VW p g b e v → e ≤ to → (e < to → isBl (g e) ∨ g e = 33) → False) ∨ (VW p g b (x.2 104 0) x.1 ∧ x.2 104 0 ≤ to ∧ ∀ e v, VW p g b e v → e ≤ to → (e < to → isBl (g e) ∨ g e = 33) → e = x.2 104 0))) := by
  have f104 : ∀ v, FY [104] m (yw m 104 0 v) := fun v f hf => yw_nF (by simp only [List.mem_cons, List.not_mem_nil, or_false] at hf; exact hf)
  by_cases hw : isWp p
  · have k1 := scx_ge (p := fun j => isSm (g j)) b to
    have k2 := scx_le (p := fun j => isSm (g j)) (i := b) (to := to) h0.2.1
    have k3 : sc (fun j => isSm (g j)) b to < to → ¬ isSm (g (sc (fun j => isSm (g j)) b to)) := fun z => scx_at (p := fun j => isSm (g j)) z
    have k4 : ∀ j, b ≤ j → j < sc (fun j => isSm (g j)) b to → isSm (g j) := fun j x y => scx_in (p := fun j => isSm (g j)) x y
    have e0 : N_Y_readValue p b to m = nk_Y_readValue_38 p b (sc (fun j => isSm (g j)) b to) m := by
      unfold N_Y_readValue
      unfold isWp at hw
      rw [ys_smalls2 ⟨h0.1, by omega⟩ h0.2.2, hg]
      simp only [Option.bind_some]
      by_cases z : p = 0
      · rw [if_pos z]
      · rw [if_neg z, if_pos (by omega)]
    rw [e0]
    generalize sc (fun j => isSm (g j)) b to = k at *
    have eV := y_wordV (m := yw m 104 0 k) (k := k) hw ⟨h0.1, k1, by omega⟩
    rw [f104 k 101 (by decide), hg] at eV
    unfold nk_Y_readValue_38 st
    dsimp only
    rw [eV]
    have uniq : ∀ e v, VW p g b e v → e ≤ to → (e < to → isBl (g e) ∨ g e = 33) → e = k ∧ v = wpF (vwN p) (sg g b (k - b).toNat) 0 ∧ 0 ≤ v := fun e v hv he hst => by
      obtain ⟨hlt, hh⟩ := hv
      rcases hh with ⟨_, v0, hv⟩ | ⟨q, _⟩
      · have hin := wpF_in (l := sg g b (e - b).toNat) (vwN p) 0 (by omega)
        have hsm := (vwN_s _ hin).2
        have e1 : e = k := by
          by_cases z : e < k
          · have h1 := k4 e (by omega) z
            have h2 := hst (by omega)
            unfold isSm at h1; unfold isBl at h2; omega
          · by_cases z' : k < e
            · have := hsm (g k) (by
                have := sg_at (g := g) (e - b).toNat b (k - b).toNat (by omega)
                rw [show b + (((k - b).toNat : Nat) : Int) = k by omega] at this; exact this)
              exact absurd this (k3 (by omega))
            · omega
        exact ⟨e1, by rw [hv, e1], v0⟩
      · exact absurd hw q
    have hbb := wpF_b (l := sg g b (k - b).toNat) (vwN p) 0
    by_cases z : wpF (vwN p) (sg g b (k - b).toNat) 0 = -1
    · rw [if_pos z]
      refine ev_ok ⟨f104 k, .inl ⟨rfl, fun e v q1 q2 q3 => ?_⟩⟩
      have := uniq e v q1 q2 q3
      omega
    · rw [if_neg z]
      have hin := wpF_in (l := sg g b (k - b).toNat) (vwN p) 0 z
      have hne := (vwN_s _ hin).1
      have hlt : b < k := by
        by_cases y : b < k
        · exact y
        · exact absurd (by rw [show (k - b).toNat = 0 by omega]; rfl) hne
      refine ev_ok ⟨f104 k, .inr ?_⟩
      show VW p g b (yw m 104 0 k 104 0) _ ∧ yw m 104 0 k 104 0 ≤ to ∧ ∀ e v, VW p g b e v → e ≤ to → (e < to → isBl (g e) ∨ g e = 33) → e = yw m 104 0 k 104 0
      rw [yw_eq]
      exact ⟨⟨hlt, .inl ⟨hw, by omega, rfl⟩⟩, k2, fun e v q1 q2 q3 => (uniq e v q1 q2 q3).1⟩
  · have hp' : 1 ≤ p ∧ p ≤ 8 := by unfold isWp at hw; omega
    unfold N_Y_readValue
    rw [if_neg (by omega), if_neg (by omega)]
    refine ev_b2 (y_digs (m := m) (p := p) h0 (fun j x y => by rw [hg]; exact htx j x y)) (fun k v hk => ?_)
    obtain ⟨k1, k2, k3, k4⟩ := hk
    rw [hg] at k2 k3 k4
    have k1 : b ≤ k ∧ k ≤ to ∧ k ≤ b + 4 := k1
    have k2 : ∀ j, b ≤ j → j < k → isDg (g j) := k2
    have k3 : v = nvL g b (k - b).toNat := k3
    have k4 : k < to → k < b + 4 → ¬ isDg (g k) := k4
    have hvb := nvL_b (g := g) (fr := b) (to := k) (fun j a _ c => k2 j a c) (k - b).toNat (by omega) (by omega)
    have h10 : (10 : Int) ^ (k - b).toNat ≤ 10000 := by
      rcases (show (k - b).toNat = 0 ∨ (k - b).toNat = 1 ∨ (k - b).toNat = 2 ∨ (k - b).toNat = 3 ∨ (k - b).toNat = 4 by omega) with y | y | y | y | y <;> rw [y] <;> decide
    rw [← k3] at hvb
    -- a NUMBER that stops well stops here
    have stp : ∀ e u, NUM g b e u → e ≤ to → (e < to → ¬ isDg (g e)) → e = k ∧ u = v := fun e u hu he hst => by
      have e1 : e = k := by
        by_cases z : e < k
        · exact absurd (k2 e (by have := hu.1.1; omega) z) (hst (by omega))
        · by_cases z' : k < e
          · exact absurd (hu.1.2.2 k k1.1 z') (k4 (by omega) (by have := hu.1.2.1; omega))
          · omega
      exact ⟨e1, by rw [hu.2, e1, k3]⟩
    have hst1 : ∀ e, (e < to → isBl (g e) ∨ g e = 33) → (e < to → ¬ isDg (g e)) := fun e q z y => by
      have := q z
      unfold isBl at this; unfold isDg at y; omega
    -- what a value can be
    have cases' : ∀ e u, VW p g b e u → e ≤ to → (e < to → isBl (g e) ∨ g e = 33) → (e = k ∧ u = v ∧ leP p ≤ v ∧ v ≤ moP p ∧ b < k) ∨ (p = 6 ∧ e = k + 1 ∧ k < to ∧ g k = 37 ∧ 1 ≤ v ∧ v ≤ 100 ∧ u = 1000 + v) := fun e u hu he hst => by
      obtain ⟨hlt, hh⟩ := hu
      rcases hh with ⟨q, _⟩ | ⟨_, ⟨q1, q2, q3⟩ | ⟨q1, q2, w, q3, q4, q5, q6⟩⟩
      · exact absurd q hw
      · obtain ⟨r1, r2⟩ := stp e u q1 he (hst1 e hst)
        exact .inl ⟨r1, r2, by omega, by omega, by omega⟩
      · obtain ⟨r1, r2⟩ := stp (e - 1) w q3 (by omega) (fun _ y => by unfold isDg at y; omega)
        exact .inr ⟨q1, by omega, by omega, by rw [← r1]; exact q2, by omega, by omega, by omega⟩
    show ev (nk_Y_readValue_158 p b to k v m) _
    unfold nk_Y_readValue_158
    by_cases z1 : k = b
    · rw [if_pos z1]
      refine ev_ok ⟨FY.refl _ _, .inl ⟨rfl, fun e u q1 q2 q3 => ?_⟩⟩
      rcases cases' e u q1 q2 q3 with y | y
      · omega
      · have := y.2.2.2.2.1
        rw [k3, z1, show (b - b).toNat = 0 by omega] at this
        exact absurd this (by show ¬ (1 : Int) ≤ 0; decide)
    rw [if_neg z1]
    have num : (p = 6 → k < to → g k ≠ 37) → (k < to → ¬ isDg (g k)) → ev (nk_Y_readValue_241 p k v m) (fun x => FY [104] m x.2 ∧ ((x.1 = -1 ∧ ∀ e v, VW p g b e v → e ≤ to → (e < to → isBl (g e) ∨ g e = 33) → False) ∨ (VW p g b (x.2 104 0) x.1 ∧ x.2 104 0 ≤ to ∧ ∀ e v, VW p g b e v → e ≤ to → (e < to → isBl (g e) ∨ g e = 33) → e = x.2 104 0))) := fun hno hdg => by
      have e241 : nk_Y_readValue_241 p k v m = nk_Y_readValue_288 p v (moP p) (yw m 104 0 k) := by
        unfold nk_Y_readValue_241 moP st
        dsimp only
        by_cases c1 : p < 3
        · rw [if_pos c1, if_pos c1]
        · rw [if_neg c1, if_neg c1]
          by_cases c2 : p = 5
          · rw [if_pos c2, if_pos c2]
          · rw [if_neg c2, if_neg c2]
            by_cases c3 : p < 5
            · rw [if_pos c3, if_pos c3]
            · rw [if_neg c3, if_neg c3]
              by_cases c4 : p < 8
              · rw [if_pos c4, if_pos c4]
              · rw [if_neg c4, if_neg c4]
      have e288 : nk_Y_readValue_288 p v (moP p) (yw m 104 0 k) = if leP p ≤ v ∧ v ≤ moP p then some (v, yw m 104 0 k) else some (-1, yw m 104 0 k) := by
        unfold nk_Y_readValue_288 leP
        by_cases c1 : moP p < v
        · rw [if_pos c1, if_neg (by omega)]
        · rw [if_neg c1]
          by_cases c2 : p = 8
          · rw [if_pos c2, if_pos c2]
            by_cases c3 : 0 < v
            · rw [if_pos c3, if_pos (by omega)]
            · rw [if_neg c3, if_neg (by omega)]
          · rw [if_neg c2, if_neg c2, if_pos (by omega)]
      rw [e241, e288]
      by_cases c : leP p ≤ v ∧ v ≤ moP p
      · rw [if_pos c]
        refine ev_ok ⟨f104 k, .inr ?_⟩
        show VW p g b (yw m 104 0 k 104 0) v ∧ yw m 104 0 k 104 0 ≤ to ∧ ∀ e v, VW p g b e v → e ≤ to → (e < to → isBl (g e) ∨ g e = 33) → e = yw m 104 0 k 104 0
        rw [yw_eq]
        refine ⟨⟨by omega, .inr ⟨hw, .inl ⟨⟨⟨by omega, by omega, k2⟩, k3⟩, c.1, c.2⟩⟩⟩, k1.2.1, fun e u q1 q2 q3 => ?_⟩
        rcases cases' e u q1 q2 q3 with y | y
        · exact y.1
        · exact absurd y.2.2.2.1 (hno y.1 y.2.2.1)
      · rw [if_neg c]
        refine ev_ok ⟨f104 k, .inl ⟨rfl, fun e u q1 q2 q3 => ?_⟩⟩
        rcases cases' e u q1 q2 q3 with y | y
        · exact c ⟨y.2.2.1, y.2.2.2.1⟩
        · exact absurd y.2.2.2.1 (hno y.1 y.2.2.1)
    have go : (k < to → ¬ isDg (g k)) → ev (nk_Y_readValue_185 p to k v m) (fun x => FY [104] m x.2 ∧ ((x.1 = -1 ∧ ∀ e v, VW p g b e v → e ≤ to → (e < to → isBl (g e) ∨ g e = 33) → False) ∨ (VW p g b (x.2 104 0) x.1 ∧ x.2 104 0 ≤ to ∧ ∀ e v, VW p g b e v → e ≤ to → (e < to → isBl (g e) ∨ g e = 33) → e = x.2 104 0))) := fun hdg => by
      unfold nk_Y_readValue_185
      by_cases p6 : p = 6
      · rw [if_pos p6]
        by_cases c1 : k < to
        · rw [if_pos c1, ix_e _ (by omega), hg]
          by_cases c2 : g k = 37
          · rw [if_pos c2, ck_e _ (by omega)]
            unfold st
            dsimp only
            have no : ¬ (1 ≤ v ∧ v ≤ 100) → ∀ e u, VW p g b e u → e ≤ to → (e < to → isBl (g e) ∨ g e = 33) → False := fun c e u q1 q2 q3 => by
              rcases cases' e u q1 q2 q3 with y | y
              · have := q3 (by omega)
                rw [y.1] at this
                unfold isBl at this; omega
              · exact c ⟨y.2.2.2.2.1, y.2.2.2.2.2.1⟩
            by_cases c3 : v < 1
            · rw [if_pos c3]
              exact ev_ok ⟨f104 _, .inl ⟨rfl, no (by omega)⟩⟩
            · rw [if_neg c3]
              by_cases c4 : 100 < v
              · rw [if_pos c4]
                exact ev_ok ⟨f104 _, .inl ⟨rfl, no (by omega)⟩⟩
              · rw [if_neg c4, ck_e _ (by omega)]
                refine ev_ok ⟨f104 _, .inr ?_⟩
                show VW p g b (yw m 104 0 (k + 1) 104 0) (1000 + v) ∧ yw m 104 0 (k + 1) 104 0 ≤ to ∧ ∀ e v, VW p g b e v → e ≤ to → (e < to → isBl (g e) ∨ g e = 33) → e = yw m 104 0 (k + 1) 104 0
                rw [yw_eq]
                refine ⟨⟨by omega, .inr ⟨hw, .inr ⟨p6, by rw [show k + 1 - 1 = k by omega]; exact c2, v, ?_, by omega, by omega, rfl⟩⟩⟩, by omega, fun e u q1 q2 q3 => ?_⟩
                · rw [show k + 1 - 1 = k by omega]
                  exact ⟨⟨by omega, by omega, k2⟩, k3⟩
                · rcases cases' e u q1 q2 q3 with y | y
                  · have := q3 (by omega)
                    rw [y.1] at this
                    unfold isBl at this; omega
                  · exact y.2.1
          · rw [if_neg c2]
            exact num (fun _ _ => c2) hdg
        · rw [if_neg c1]
          exact num (fun _ y => absurd y c1) hdg
      · rw [if_neg p6]
        exact num (fun y => absurd y p6) hdg
    by_cases z2 : k < to
    · rw [if_pos z2, ix_e _ (by omega), hg]
      by_cases z3 : isDg (g k)
      · rw [bz_t ys_digit z3]
        simp only [Option.bind_some]
        rw [if_neg (by decide)]
        refine ev_ok ⟨FY.refl _ _, .inl ⟨rfl, fun e u q1 q2 q3 => ?_⟩⟩
        rcases cases' e u q1 q2 q3 with y | y
        · have := q3 (by omega)
          rw [y.1] at this
          unfold isBl at this; unfold isDg at z3; omega
        · have := y.2.2.2.1
          unfold isDg at z3; omega
      · rw [bz_f ys_digit z3]
        simp only [Option.bind_some]
        rw [if_pos trivial]
        exact go (fun _ => z3)
    · rw [if_neg z2]
      exact go (fun y => absurd y z2)
end T2
