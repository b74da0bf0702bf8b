/-! TEXTS: rows of bytes, NAMES as longs, words -/
/-- k bytes from i on -/
def sg (g : Int → Int) (i : Int) : Nat → List Int
  | 0 => []
  | k + 1 => g i :: sg g (i + 1) k
theorem sg_len (g : Int → Int) : ∀ (k : Nat) (i : Int), (sg g i k).length = k := by
  intro k
  induction k with
  | zero => intro i; rfl
  | succ k ih => intro i; show (sg g (i + 1) k).length + 1 = _; rw [ih]
theorem sg_cg {g h : Int → Int} : ∀ (k : Nat) (i j : Int), (∀ x : Nat, x < k → g (i + x) = h (j + x)) → sg g i k = sg h j k := by
  intro k
  induction k with
  | zero => intros; rfl
  | succ k ih =>
    intro i j hx
    unfold sg
    have h0 := hx 0 (by omega)
    rw [show i + ((0 : Nat) : Int) = i by omega, show j + ((0 : Nat) : Int) = j by omega] at h0
    rw [h0, ih (i + 1) (j + 1) (fun x hl => by
      have := hx (x + 1) (by omega)
      rw [show i + ((x + 1 : Nat) : Int) = i + 1 + x by omega, show j + ((x + 1 : Nat) : Int) = j + 1 + x by omega] at this
      exact this)]
theorem sg_inj {g h : Int → Int} : ∀ (k : Nat) (i j : Int), sg g i k = sg h j k → ∀ x : Nat, x < k → g (i + x) = h (j + x) := by
  intro k
  induction k with
  | zero => intros; omega
  | succ k ih =>
    intro i j he x hx
    unfold sg at he
    have h1 := List.cons.inj he
    cases x with
    | zero => rw [show i + ((0 : Nat) : Int) = i by omega, show j + ((0 : Nat) : Int) = j by omega]; exact h1.1
    | succ x =>
      have := ih (i + 1) (j + 1) h1.2 x (by omega)
      rw [show i + ((x + 1 : Nat) : Int) = i + 1 + x by omega, show j + ((x + 1 : Nat) : Int) = j + 1 + x by omega]
      exact this
theorem sg_app {g : Int → Int} : ∀ (k l : Nat) (i : Int), sg g i (k + l) = sg g i k ++ sg g (i + k) l := by
  intro k
  induction k with
  | zero => intro l i; rw [Nat.zero_add, show i + ((0 : Nat) : Int) = i by omega]; rfl
  | succ k ih =>
    intro l i
    rw [show k + 1 + l = (k + l) + 1 by omega]
    show g i :: sg g (i + 1) (k + l) = g i :: (sg g (i + 1) k ++ _)
    rw [ih, show i + 1 + (k : Int) = i + ((k + 1 : Nat) : Int) by omega]
theorem sg_mem {g : Int → Int} {P : Int → Prop} : ∀ (k : Nat) (i : Int), (∀ x : Nat, x < k → P (g (i + x))) → ∀ c ∈ sg g i k, P c := by
  intro k
  induction k with
  | zero => intro i _ c hc; cases hc
  | succ k ih =>
    intro i h c hc
    rcases List.mem_cons.mp hc with e | hc
    · have := h 0 (by omega)
      rw [show i + ((0 : Nat) : Int) = i by omega] at this
      rw [e]; exact this
    · exact ih (i + 1) (fun x hx => by
        have := h (x + 1) (by omega)
        rw [show i + ((x + 1 : Nat) : Int) = i + 1 + x by omega] at this
        exact this) c hc
/-- bytes as one long -/
def pkA (a : Int) : List Int → Int
  | [] => a
  | c :: l => pkA (a * 256 + c) l
def pk (l : List Int) : Int := pkA 0 l
abbrev isBt (c : Int) : Prop := 1 ≤ c ∧ c ≤ 127
theorem pkA_app (l : List Int) : ∀ (a : Int) (r : List Int), pkA a (l ++ r) = pkA (pkA a l) r := by
  induction l with
  | nil => intros; rfl
  | cons c l ih => intro a r; exact ih _ r
theorem pkA_ge (l : List Int) : ∀ a, 0 ≤ a → (∀ c ∈ l, isBt c) → a * 256 ^ l.length ≤ pkA a l ∧ pkA a l < (a + 1) * 256 ^ l.length := by
  induction l with
  | nil => intro a _ _; simp [pkA]; omega
  | cons c l ih =>
    intro a ha hc
    have h1 := hc c List.mem_cons_self
    have := ih (a * 256 + c) (by omega) (fun x hx => hc x (List.mem_cons_of_mem _ hx))
    show _ ≤ pkA (a * 256 + c) l ∧ pkA (a * 256 + c) l < _
    have hp : (0 : Int) < 256 ^ l.length := Int.pow_pos (by omega)
    have e : (256 : Int) ^ (c :: l).length = 256 * 256 ^ l.length := by rw [List.length_cons, Int.pow_succ]; omega
    rw [e]
    generalize (256 : Int) ^ l.length = q at *
    have m1 : a * (256 * q) = (a * 256) * q := by rw [Int.mul_assoc]
    have m2 : (a + 1) * (256 * q) = (a * 256 + 256) * q := by rw [← Int.mul_assoc, Int.add_mul]; rfl
    rw [m1, m2]
    have a1 : (a * 256) * q ≤ (a * 256 + c) * q := Int.mul_le_mul_of_nonneg_right (by omega) (by omega)
    have a2 : (a * 256 + c + 1) * q ≤ (a * 256 + 256) * q := Int.mul_le_mul_of_nonneg_right (by omega) (by omega)
    omega
theorem pkA_inj (l : List Int) : ∀ (a b : Int) (r : List Int), 0 ≤ a → 0 ≤ b → l.length = r.length → (∀ c ∈ l, isBt c) → (∀ c ∈ r, isBt c) → pkA a l = pkA b r → a = b ∧ l = r := by
  induction l with
  | nil =>
    intro a b r _ _ hl _ _ he
    cases r with
    | nil => exact ⟨he, rfl⟩
    | cons _ _ => cases hl
  | cons c l ih =>
    intro a b r ha hb hl hc hr he
    cases r with
    | nil => cases hl
    | cons d r =>
      have h1 := hc c List.mem_cons_self
      have h2 := hr d List.mem_cons_self
      have := ih (a * 256 + c) (b * 256 + d) r (by omega) (by omega) (Nat.succ.inj hl) (fun x hx => hc x (List.mem_cons_of_mem _ hx)) (fun x hx => hr x (List.mem_cons_of_mem _ hx)) he
      exact ⟨by omega, by rw [this.2, show c = d by omega]⟩
theorem pkq_pos {l : List Int} (hc : ∀ c ∈ l, isBt c) (hl : l ≠ []) : 256 ^ (l.length - 1) ≤ pk l := by
  cases l with
  | nil => exact absurd rfl hl
  | cons c l =>
    have h1 := hc c List.mem_cons_self
    have := pkA_ge l (0 * 256 + c) (by omega) (fun x hx => hc x (List.mem_cons_of_mem _ hx))
    show 256 ^ l.length ≤ pkA (0 * 256 + c) l
    have hp : (0 : Int) < 256 ^ l.length := Int.pow_pos (by omega)
    generalize (256 : Int) ^ l.length = q at *
    have : 1 * q ≤ (0 * 256 + c) * q := Int.mul_le_mul_of_nonneg_right (by omega) (by omega)
    omega
theorem pkq_lt {l : List Int} (hc : ∀ c ∈ l, isBt c) : pk l < 256 ^ l.length ∧ 0 ≤ pk l := by
  have := pkA_ge l 0 (by omega) hc
  unfold pk
  rw [Int.zero_mul] at this
  omega
theorem pow256_mono {a b : Nat} (h : a ≤ b) : (256 : Int) ^ a ≤ 256 ^ b := by
  obtain ⟨d, rfl⟩ := Nat.exists_eq_add_of_le h
  clear h
  induction d with
  | zero => exact Int.le_refl _
  | succ d ih =>
    have hp : (0 : Int) < 256 ^ (a + d) := Int.pow_pos (by omega)
    rw [show a + (d + 1) = (a + d) + 1 by omega, Int.pow_succ]
    omega
theorem pkq_inj {l r : List Int} (hl : ∀ c ∈ l, isBt c) (hr : ∀ c ∈ r, isBt c) (h : pk l = pk r) : l = r := by
  have key : ∀ {l r : List Int}, (∀ c ∈ l, isBt c) → (∀ c ∈ r, isBt c) → pk l = pk r → ¬ l.length < r.length := fun {l r} hl hr h hlt => by
    have h1 := pkq_lt hl
    have h2 := pkq_pos hr (fun z => by rw [z] at hlt; cases hlt)
    have h3 := pow256_mono (show l.length ≤ r.length - 1 by omega)
    omega
  have hlen : l.length = r.length := by
    have h1 := key hl hr h
    have h2 := key hr hl h.symm
    omega
  exact (pkA_inj l 0 0 r (by omega) (by omega) hlen hl hr h).2
theorem pkq_inL {l : List Int} (hc : ∀ c ∈ l, isBt c) (h8 : l.length ≤ 8) : 0 ≤ pk l ∧ pk l < 9223372036854775808 := by
  refine ⟨(pkq_lt hc).2, ?_⟩
  cases l with
  | nil => show (0 : Int) < _; decide
  | cons c l =>
    have h1 := hc c List.mem_cons_self
    have := (pkA_ge l (0 * 256 + c) (by omega) (fun x hx => hc x (List.mem_cons_of_mem _ hx))).2
    show pkA (0 * 256 + c) l < _
    have h2 := pow256_mono (show l.length ≤ 7 by simp at h8; omega)
    have h3 : (256 : Int) ^ 7 = 72057594037927936 := by decide
    have hp : (0 : Int) < 256 ^ l.length := Int.pow_pos (by omega)
    rw [h3] at h2
    generalize (256 : Int) ^ l.length = q at *
    have a2 : (0 * 256 + c + 1) * q ≤ 128 * q := Int.mul_le_mul_of_nonneg_right (by omega) (by omega)
    omega
theorem pkq_0 {l : List Int} (hc : ∀ c ∈ l, isBt c) : pk l = 0 ↔ l = [] := by
  constructor
  · intro h
    exact pkq_inj hc (fun c hx => by cases hx) h
  · intro h; rw [h]; rfl
/-- words: a list of bytes stands at i, before to -/
def mtR : List Int → (Int → Int) → Int → Int → Prop
  | [], _, _, _ => True
  | c :: s, g, i, to => i < to ∧ g i = c ∧ mtR s g (i + 1) to
def wlF : Nat → Int → List Int
  | 0, _ => []
  | k + 1, w => if 0 < w then (96 + w % 32) :: wlF k (w / 32) else []
def wl (w : Int) : List Int := wlF 13 w
theorem wl_step {w : Int} (h0 : 0 < w) (h : w < 36893488147419103232) : wl w = (96 + w % 32) :: wl (w / 32) := by
  have key : ∀ (k : Nat) (w : Int), 0 ≤ w → w < 32 ^ k → wlF k w = wlF (k + 1) w := by
    intro k
    induction k with
    | zero => intro w h1 h2; have : w = 0 := by simp at h2; omega
              subst this; rfl
    | succ k ih =>
      intro w h1 h2
      show (if 0 < w then (96 + w % 32) :: wlF k (w / 32) else []) = (if 0 < w then (96 + w % 32) :: wlF (k + 1) (w / 32) else [])
      rw [ih (w / 32) (by omega) (by
        rw [Int.pow_succ] at h2
        exact Int.ediv_lt_of_lt_mul (by omega) h2)]
  unfold wl
  show (if 0 < w then (96 + w % 32) :: wlF 12 (w / 32) else []) = _
  rw [if_pos h0, key 12 (w / 32) (by omega) (by
    have : (32 : Int) ^ 12 = 1152921504606846976 := by decide
    rw [this]; omega)]
theorem wl_0 {w : Int} (h : ¬ 0 < w) : wl w = [] := by
  unfold wl wlF
  rw [if_neg h]
section T2
variable {m : YS} {n : NS} {g : Int → Int} {f f2 : Nat} {a l i j to w : Int}
theorem ys_lengthOf (h : 0 ≤ w ∧ w < 36893488147419103232) : N_Y_lengthOf w m = some ((wl w).length : Int) := by
  apply eq_of_ev
  unfold N_Y_lengthOf NL_Y_lengthOf_4
  refine ev_bind (P := fun r => r = ((wl w).length : Int)) (ev_it (fun s : Int × Int => 0 ≤ s.1 ∧ 0 ≤ s.2 ∧ s.2 < 36893488147419103232 ∧ s.1 + ((wl s.2).length : Int) = ((wl w).length : Int) ∧ (wl w).length ≤ 13) (fun s => s.2) (fun s hs => ?_) ⟨Int.le_refl _, h.1, h.2, by show (0 : Int) + ((wl w).length : Int) = _; omega, ?_⟩) (fun v hv => ev_ok hv)
  · obtain ⟨h1, h2, h3, h4, h5⟩ := hs
    unfold nb_Y_lengthOf_4
    (repeat' (first | (with_reducible apply ev_z0) | (with_reducible apply ev_z1) | (with_reducible apply ev_ck; focus omega) | (with_reducible apply ev_ckL; focus omega) | (with_reducible apply ev_ix; focus omega) | (with_reducible apply ev_cz; focus omega) | (with_reducible apply ev_cb; focus omega) | (with_reducible apply ev_dx; focus omega) | (with_reducible apply ev_nn; focus omega) | (with_reducible apply ev_ty; focus omega) | (with_reducible apply ev_cd; focus omega) | (with_reducible apply ev_or8; focus omega) | (with_reducible apply ev_sh5; focus omega) | (with_reducible apply ev_sh6; focus omega) | (with_reducible apply ev_st) | (with_reducible refine ev_if (fun _ => ?_) (fun _ => ?_))))
    · have e := wl_step (w := s.2) (by omega) (by omega)
      rw [e, List.length_cons] at h4
      exact ev_inl ⟨⟨by omega, by omega, by omega, by show s.1 + 1 + ((wl (s.2 / 32)).length : Int) = _; omega, h5⟩, by show s.2 / 32 < s.2; omega, by show 0 ≤ s.2; omega⟩
    · have e := wl_0 (w := s.2) (by omega)
      rw [e] at h4
      exact ev_inr (by show s.1 = _; simp at h4; omega)
  · have : ∀ (k : Nat) (w : Int), (wlF k w).length ≤ k := by
      intro k
      induction k with
      | zero => intro w; exact Nat.le_refl 0
      | succ k ih => intro w; unfold wlF; split
                     · rw [List.length_cons]; have := ih (w / 32); omega
                     · simp
    exact this 13 w
theorem ys_isWord (h : 0 ≤ w ∧ w < 36893488147419103232) (hl : to ≤ yLn f) (h0 : 0 ≤ i) (hto : to ≤ 100000) (hi : i ≤ 100000) : ev (N_Y_isWord f i to w m) (bz (mtR (wl w) (m f) i to)) := by
  unfold N_Y_isWord NL_Y_isWord_6
  refine ev_bs (P := fun _ => ¬ mtR (wl w) (m f) i to) (R := fun _ => mtR (wl w) (m f) i to) ?_ (fun v h => ev_0 h) (fun v h => ev_1 h)
  refine ev_it (fun s => i ≤ s.1 ∧ s.1 ≤ 100001 ∧ 0 ≤ s.2 ∧ s.2 < 36893488147419103232 ∧ (mtR (wl w) (m f) i to ↔ mtR (wl s.2) (m f) s.1 to)) (fun s => s.2) (fun s hs => ?_) ⟨Int.le_refl _, by show i ≤ _; omega, h.1, h.2, Iff.rfl⟩
  obtain ⟨h1, h2, h3, h4, h5⟩ := hs
  unfold nb_Y_isWord_6
  (repeat' (first | (with_reducible apply ev_z0) | (with_reducible apply ev_z1) | (with_reducible apply ev_ck; focus omega) | (with_reducible apply ev_ckL; focus omega) | (with_reducible apply ev_ix; focus omega) | (with_reducible apply ev_cz; focus omega) | (with_reducible apply ev_cb; focus omega) | (with_reducible apply ev_dx; focus omega) | (with_reducible apply ev_nn; focus omega) | (with_reducible apply ev_ty; focus omega) | (with_reducible apply ev_cd; focus omega) | (with_reducible apply ev_or8; focus omega) | (with_reducible apply ev_sh5; focus omega) | (with_reducible apply ev_sh6; focus omega) | (with_reducible apply ev_st) | (with_reducible refine ev_if (fun _ => ?_) (fun _ => ?_))))
  · rename_i hw hlt he
    rw [wl_step hw h4] at h5
    exact ev_inl ⟨⟨by show i ≤ s.1 + 1; omega, by show s.1 + 1 ≤ _; omega, by show 0 ≤ s.2 / 32; omega, by show s.2 / 32 < _; omega, h5.trans ⟨fun z => z.2.2, fun z => ⟨hlt, he, z⟩⟩⟩, by show s.2 / 32 < s.2; omega, by show 0 ≤ s.2; omega⟩
  · rename_i hw hlt he
    rw [wl_step hw h4] at h5
    exact ev_inr (fun z => he (h5.mp z).2.1)
  · rename_i hw hlt
    rw [wl_step hw h4] at h5
    exact ev_inr (fun z => hlt (h5.mp z).1)
  · rename_i hw
    rw [wl_0 hw] at h5
    exact ev_inr (h5.mpr trivial)
theorem ys_same {k : Int} (hi : 0 ≤ i) (hj : 0 ≤ j) (h1 : i + k ≤ yLn f) (h2 : j + k ≤ yLn f2) (hk : 0 ≤ k) (hb : i + k ≤ 100000 ∧ j + k ≤ 100000) : ev (N_Y_same f i f2 j k m) (bz (sg (m f) i k.toNat = sg (m f2) j k.toNat)) := by
  have hx : sg (m f) i k.toNat = sg (m f2) j k.toNat ↔ ∀ x, 0 ≤ x → x < k → m f (i + x) = m f2 (j + x) := by
    constructor
    · intro h x hx1 hx2
      have := sg_inj _ _ _ h x.toNat (by omega)
      rw [Int.toNat_of_nonneg hx1] at this
      exact this
    · intro h
      exact sg_cg _ _ _ (fun x hx => h x (by omega) (by omega))
  unfold N_Y_same NL_Y_same_3
  refine ev_bs (P := fun _ => ¬ (sg (m f) i k.toNat = sg (m f2) j k.toNat)) (R := fun _ => sg (m f) i k.toNat = sg (m f2) j k.toNat) ?_ (fun v h => ev_0 h) (fun v h => ev_1 h)
  refine ev_it (fun s => 0 ≤ s ∧ s ≤ k ∧ ∀ x, 0 ≤ x → x < s → m f (i + x) = m f2 (j + x)) (fun s => k - s) (fun s hs => ?_) ⟨Int.le_refl _, hk, fun x a b => by omega⟩
  obtain ⟨h3, h4, h5⟩ := hs
  unfold nb_Y_same_3
  (repeat' (first | (with_reducible apply ev_z0) | (with_reducible apply ev_z1) | (with_reducible apply ev_ck; focus omega) | (with_reducible apply ev_ckL; focus omega) | (with_reducible apply ev_ix; focus omega) | (with_reducible apply ev_cz; focus omega) | (with_reducible apply ev_cb; focus omega) | (with_reducible apply ev_dx; focus omega) | (with_reducible apply ev_nn; focus omega) | (with_reducible apply ev_ty; focus omega) | (with_reducible apply ev_cd; focus omega) | (with_reducible apply ev_or8; focus omega) | (with_reducible apply ev_sh5; focus omega) | (with_reducible apply ev_sh6; focus omega) | (with_reducible apply ev_st) | (with_reducible refine ev_if (fun _ => ?_) (fun _ => ?_))))
  · rename_i hlt he
    refine ev_inl ⟨⟨by omega, by omega, fun x hx1 hx2 => ?_⟩, by omega, by omega⟩
    by_cases e : x = s
    · rw [e]; exact he
    · exact h5 x hx1 (by omega)
  · rename_i hlt he
    exact ev_inr (fun z => he (hx.mp z s h3 hlt))
  · refine ev_inr (hx.mpr (fun x hx1 hx2 => h5 x hx1 (by omega)))
end T2
