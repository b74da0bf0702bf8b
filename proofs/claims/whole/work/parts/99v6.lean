/-! FLOATS: what a line at y has beside it, in both -/
def leR (m : YS) (y : Int) : Nat → Int
  | 0 => 0
  | f + 1 => if m 139 f ≤ y ∧ y < m 140 f then (if m 141 f = 1 then max (leR m y f) (m 138 f) else leR m y f) else leR m y f
def riR (m : YS) (y : Int) : Nat → Int
  | 0 => m 145 0
  | f + 1 => if m 139 f ≤ y ∧ y < m 140 f then (if m 141 f = 1 then riR m y f else min (riR m y f) (m 137 f)) else riR m y f
def neR (m : YS) (y : Int) : Nat → Int
  | 0 => -1
  | f + 1 => if m 139 f ≤ y ∧ y < m 140 f then (if neR m y f = -1 then m 140 f else min (neR m y f) (m 140 f)) else neR m y f
def mxE (m : YS) : Nat → Int
  | 0 => 0
  | f + 1 => max (mxE m f) (m 140 f)
def mxT (m : YS) (a : Int) : Nat → Int
  | 0 => a
  | f + 1 => max (mxT m a f) (m 139 f)
/-- how many of them end behind y -/
def cnE (m : YS) (y : Int) : Nat → Nat
  | 0 => 0
  | f + 1 => cnE m y f + (if y < m 140 f then 1 else 0)
def wE (m : YS) (a b : Int) : YS := yw (yw m 128 0 a) 129 0 b
def wO (n : NS) (a b c : Int) : NS := nw (nw (nw n 5 0 12 a) 5 0 13 b) 5 0 14 c
/-- the FLOATS that are put, in both; E is the edge of the block -/
def FTb (n : NS) (m : YS) (E F : Int) : Prop := ∀ f, 0 ≤ f → f < F → (0 ≤ n 43 0 f ∧ n 43 0 f < 120)
  ∧ (n 3 (n 43 0 f) 2 - n 3 (n 43 0 f) 6 = m 137 f + E ∧ n 3 (n 43 0 f) 2 + n 3 (n 43 0 f) 4 + n 3 (n 43 0 f) 6 = m 138 f + E)
  ∧ (n 3 (n 43 0 f) 3 - n 3 (n 43 0 f) 6 = m 139 f + E ∧ n 3 (n 43 0 f) 3 + n 3 (n 43 0 f) 5 + n 3 (n 43 0 f) 6 = m 140 f + E)
  ∧ n 3 (n 43 0 f) 13 = m 141 f
  ∧ ((0 ≤ m 139 f ∧ m 139 f ≤ m 140 f ∧ m 140 f ≤ 1000000) ∧ (-2000000 ≤ m 137 f ∧ m 137 f ≤ 2000000 ∧ 0 ≤ m 138 f ∧ m 138 f ≤ 2000000))
  ∧ ((0 ≤ n 3 (n 43 0 f) 6 ∧ n 3 (n 43 0 f) 6 ≤ 20) ∧ n 3 (n 43 0 f) 0 = 1)
/-- the block in which lines are laid -/
def BK (n : NS) (m : YS) (v E wd : Int) : Prop := n 5 0 8 = v ∧ (0 ≤ v ∧ v < 120) ∧ n 3 v 8 = E ∧ (0 ≤ E ∧ E ≤ 50) ∧ n 3 v 4 = wd ∧ (0 ≤ wd ∧ wd ≤ 1300000) ∧ m 145 0 = max 0 (wd - 2 * E) ∧ n 3 v 12 = m 133 0
section V6
variable {n n' : NS} {m m' : YS} {a b c y q s E F v wd : Int}
theorem wE_128 : yw (wE m a b) 128 0 c = wE m c b := by
  funext g j
  unfold wE
  simp only [yw_app]
  by_cases z : g = 128 ∧ j = 0
  · rw [if_pos z, if_neg (by omega), if_pos z]
  · simp only [if_neg z]
theorem wE_129 : yw (wE m a b) 129 0 c = wE m a c := by
  funext g j
  unfold wE
  simp only [yw_app]
  by_cases z : g = 129 ∧ j = 0
  · simp only [if_pos z]
  · simp only [if_neg z]
theorem wE_o {f : Nat} (h1 : f ≠ 128) (h2 : f ≠ 129) : wE m a b f = m f := by
  unfold wE; rw [yw_nF h2, yw_nF h1]
theorem wE_l : wE m a b 128 0 = a := by unfold wE; rw [yw_nF (by decide), yw_eq]
theorem wE_r : wE m a b 129 0 = b := by unfold wE; rw [yw_eq]
theorem wE_wE {a' b' : Int} : wE (wE m a b) a' b' = wE m a' b' := by
  show yw (yw (wE m a b) 128 0 a') 129 0 b' = _
  rw [wE_128, wE_129]
theorem wO_12 : nw (wO n a b c) 5 0 12 q = wO n q b c := by
  funext K i s
  unfold wO
  simp only [nw_app]
  by_cases z : K = 5 ∧ i = 0 ∧ s = 12
  · rw [if_pos z, if_neg (by omega), if_neg (by omega), if_pos z]
  · simp only [if_neg z]
theorem wO_13 : nw (wO n a b c) 5 0 13 q = wO n a q c := by
  funext K i s
  unfold wO
  simp only [nw_app]
  by_cases z : K = 5 ∧ i = 0 ∧ s = 13
  · rw [if_pos z, if_neg (by omega), if_pos z]
  · simp only [if_neg z]
theorem wO_14 : nw (wO n a b c) 5 0 14 q = wO n a b q := by
  funext K i s
  unfold wO
  simp only [nw_app]
  by_cases z : K = 5 ∧ i = 0 ∧ s = 14
  · simp only [if_pos z]
  · simp only [if_neg z]
theorem wO_K {K : Nat} (h : K ≠ 5) : wO n a b c K = n K := by
  unfold wO; rw [nw_nK h, nw_nK h, nw_nK h]
theorem wO_s {i : Int} (h1 : s ≠ 12) (h2 : s ≠ 13) (h3 : s ≠ 14) : wO n a b c 5 i s = n 5 i s := by
  unfold wO; rw [nw_ns h3, nw_ns h2, nw_ns h1]
theorem wO_a : wO n a b c 5 0 12 = a := by unfold wO; rw [nw_ns (by decide), nw_ns (by decide), nw_eq]
theorem wO_b : wO n a b c 5 0 13 = b := by unfold wO; rw [nw_ns (by decide), nw_eq]
theorem wO_c : wO n a b c 5 0 14 = c := by unfold wO; rw [nw_eq]
theorem wO_wO {a' b' c' : Int} : wO (wO n a b c) a' b' c' = wO n a' b' c' := by
  show nw (nw (nw (wO n a b c) 5 0 12 a') 5 0 13 b') 5 0 14 c' = _
  rw [wO_12, wO_13, wO_14]
theorem leR_s (h : 0 ≤ s) : leR m y (s + 1).toNat = if m 139 s ≤ y ∧ y < m 140 s then (if m 141 s = 1 then max (leR m y s.toNat) (m 138 s) else leR m y s.toNat) else leR m y s.toNat := by
  rw [show (s + 1).toNat = s.toNat + 1 by omega]
  simp only [leR]
  rw [show ((s.toNat : Nat) : Int) = s by omega]
theorem riR_s (h : 0 ≤ s) : riR m y (s + 1).toNat = if m 139 s ≤ y ∧ y < m 140 s then (if m 141 s = 1 then riR m y s.toNat else min (riR m y s.toNat) (m 137 s)) else riR m y s.toNat := by
  rw [show (s + 1).toNat = s.toNat + 1 by omega]
  simp only [riR]
  rw [show ((s.toNat : Nat) : Int) = s by omega]
theorem neR_s (h : 0 ≤ s) : neR m y (s + 1).toNat = if m 139 s ≤ y ∧ y < m 140 s then (if neR m y s.toNat = -1 then m 140 s else min (neR m y s.toNat) (m 140 s)) else neR m y s.toNat := by
  rw [show (s + 1).toNat = s.toNat + 1 by omega]
  simp only [neR]
  rw [show ((s.toNat : Nat) : Int) = s by omega]
theorem mxE_s (h : 0 ≤ s) : mxE m (s + 1).toNat = max (mxE m s.toNat) (m 140 s) := by
  rw [show (s + 1).toNat = s.toNat + 1 by omega]
  simp only [mxE]
  rw [show ((s.toNat : Nat) : Int) = s by omega]
theorem mxT_s (h : 0 ≤ s) : mxT m a (s + 1).toNat = max (mxT m a s.toNat) (m 139 s) := by
  rw [show (s + 1).toNat = s.toNat + 1 by omega]
  simp only [mxT]
  rw [show ((s.toNat : Nat) : Int) = s by omega]
/-- they hang on the table of FLOATS alone -/
theorem flR_cg (h145 : m' 145 0 = m 145 0) : ∀ k : Nat, (∀ f : Int, 0 ≤ f → f < k → m' 137 f = m 137 f ∧ m' 138 f = m 138 f ∧ m' 139 f = m 139 f ∧ m' 140 f = m 140 f ∧ m' 141 f = m 141 f) → leR m' y k = leR m y k ∧ riR m' y k = riR m y k ∧ neR m' y k = neR m y k ∧ mxE m' k = mxE m k ∧ mxT m' a k = mxT m a k ∧ cnE m' y k = cnE m y k := by
  intro k
  induction k with
  | zero => intro _; exact ⟨rfl, h145, rfl, rfl, rfl, rfl⟩
  | succ k ih =>
    intro h
    obtain ⟨i1, i2, i3, i4, i5, i6⟩ := ih (fun f x y => h f x (by omega))
    obtain ⟨q1, q2, q3, q4, q5⟩ := h k (by omega) (by omega)
    simp only [leR, riR, neR, mxE, mxT, cnE]
    rw [i1, i2, i3, i4, i5, i6, q1, q2, q3, q4, q5]
    exact ⟨rfl, rfl, rfl, rfl, rfl, rfl⟩
theorem flR_w : leR (wE m a b) y q.toNat = leR m y q.toNat ∧ riR (wE m a b) y q.toNat = riR m y q.toNat ∧ neR (wE m a b) y q.toNat = neR m y q.toNat ∧ mxE (wE m a b) q.toNat = mxE m q.toNat := by
  have h := flR_cg (m := m) (m' := wE m a b) (y := y) (a := 0) (by rw [wE_o (by decide) (by decide)]) q.toNat (fun f _ _ => by
    rw [wE_o (by decide) (by decide), wE_o (by decide) (by decide), wE_o (by decide) (by decide), wE_o (by decide) (by decide), wE_o (by decide) (by decide)]
    exact ⟨rfl, rfl, rfl, rfl, rfl⟩)
  exact ⟨h.1, h.2.1, h.2.2.1, h.2.2.2.1⟩
theorem y_floatAt {f : Int} (hf : 0 ≤ f ∧ f < 120) : N_Y_isFloatAt f y m = some (if m 139 f ≤ y ∧ y < m 140 f then 1 else 0) := by
  unfold N_Y_isFloatAt
  rw [ix_e _ hf, ix_e _ hf]
  by_cases z1 : y < m 139 f
  · rw [if_pos z1, if_neg (by omega)]
  · rw [if_neg z1]
    by_cases z2 : y < m 140 f
    · rw [if_pos z2, if_pos (by omega)]
    · rw [if_neg z2, if_neg (by omega)]
theorem y_edgesAt (hF : 0 ≤ m 136 0 ∧ m 136 0 ≤ 120) : N_Y_edgesAt y m = some (wE m (leR m y (m 136 0).toNat) (riR m y (m 136 0).toNat)) := by
  apply eq_of_ev
  unfold N_Y_edgesAt NL_Y_edgesAt_15 st
  dsimp only
  rw [yw_nF (show (145 : Nat) ≠ 128 by decide)]
  refine ev_bind (P := fun m' => m' = wE m (leR m y (m 136 0).toNat) (riR m y (m 136 0).toNat)) (ev_it (fun t : Int × YS => (0 ≤ t.1 ∧ t.1 ≤ m 136 0) ∧ t.2 = wE m (leR m y t.1.toNat) (riR m y t.1.toNat)) (fun t => m 136 0 - t.1) (fun t ht => ?_) ⟨by show (0 : Int) ≤ 0 ∧ (0 : Int) ≤ _; omega, rfl⟩) (fun m' h => ev_ok h)
  obtain ⟨f, m1⟩ := t
  obtain ⟨g1, g2⟩ := ht
  simp only at g1 g2
  show ev (nb_Y_edgesAt_15 y f m1) _
  unfold nb_Y_edgesAt_15 st
  rw [g2]
  rw [wE_o (show (136 : Nat) ≠ 128 by decide) (show (136 : Nat) ≠ 129 by decide)]
  refine ev_if (fun hlt => ?_) (fun hge => ev_inr (by show wE m _ _ = _; rw [show f = m 136 0 by omega]))
  have h120 : 0 ≤ f ∧ f < 120 := by omega
  rw [y_floatAt h120]
  simp only [Option.bind_some]
  rw [wE_o (show (139 : Nat) ≠ 128 by decide) (show (139 : Nat) ≠ 129 by decide), wE_o (show (140 : Nat) ≠ 128 by decide) (show (140 : Nat) ≠ 129 by decide)]
  have fin : ∀ m2, m2 = wE m (leR m y (f + 1).toNat) (riR m y (f + 1).toNat) → ev (ck (f + 1) (some (Sum.inl (f + 1, m2)))) (lp (fun t : Int × YS => (0 ≤ t.1 ∧ t.1 ≤ m 136 0) ∧ t.2 = wE m (leR m y t.1.toNat) (riR m y t.1.toNat)) (fun t => m 136 0 - t.1) (f, m1) (fun m' => m' = wE m (leR m y (m 136 0).toNat) (riR m y (m 136 0).toNat))) := fun m2 h2 => ev_ck (by omega) (ev_inl ⟨⟨by show 0 ≤ f + 1 ∧ f + 1 ≤ _; omega, h2⟩, by show m 136 0 - (f + 1) < m 136 0 - f; omega, by show 0 ≤ m 136 0 - f; omega⟩)
  by_cases z : m 139 f ≤ y ∧ y < m 140 f
  · rw [if_pos z, if_neg (show ¬ (1 : Int) = 0 by decide), ix_e _ h120, wE_o (show (141 : Nat) ≠ 128 by decide) (show (141 : Nat) ≠ 129 by decide)]
    by_cases w : m 141 f = 1
    · rw [if_pos w, ix_e _ h120, wE_l, wE_o (show (138 : Nat) ≠ 128 by decide) (show (138 : Nat) ≠ 129 by decide), wE_128]
      exact fin _ (by rw [leR_s g1.1, riR_s g1.1, if_pos z, if_pos z, if_pos w, if_pos w])
    · rw [if_neg w, ix_e _ h120, wE_r, wE_o (show (137 : Nat) ≠ 128 by decide) (show (137 : Nat) ≠ 129 by decide), wE_129]
      exact fin _ (by rw [leR_s g1.1, riR_s g1.1, if_pos z, if_pos z, if_neg w, if_neg w])
  · rw [if_neg z, if_pos rfl]
    exact fin _ (by rw [leR_s g1.1, riR_s g1.1, if_neg z, if_neg z])
theorem y_leastEnd (hF : 0 ≤ m 136 0 ∧ m 136 0 ≤ 120) : N_Y_leastEnd y m = some (neR m y (m 136 0).toNat) := by
  apply eq_of_ev
  unfold N_Y_leastEnd NL_Y_leastEnd_4
  refine ev_bind (P := fun r => r = neR m y (m 136 0).toNat) (ev_it (fun t : Int × Int => (0 ≤ t.2 ∧ t.2 ≤ m 136 0) ∧ t.1 = neR m y t.2.toNat) (fun t => m 136 0 - t.2) (fun t ht => ?_) ⟨by show (0 : Int) ≤ 0 ∧ (0 : Int) ≤ _; omega, rfl⟩) (fun m' h => ev_ok h)
  obtain ⟨x, f⟩ := t
  obtain ⟨g1, g2⟩ := ht
  simp only at g1 g2
  show ev (nb_Y_leastEnd_4 y x f m) _
  unfold nb_Y_leastEnd_4 nk_Y_leastEnd_36
  refine ev_if (fun hlt => ?_) (fun hge => ev_inr (by show x = _; rw [g2, show f = m 136 0 by omega]))
  have h120 : 0 ≤ f ∧ f < 120 := by omega
  rw [y_floatAt h120]
  simp only [Option.bind_some]
  have fin : ∀ x2, x2 = neR m y (f + 1).toNat → ev (ck (f + 1) (some (Sum.inl (x2, f + 1)))) (lp (fun t : Int × Int => (0 ≤ t.2 ∧ t.2 ≤ m 136 0) ∧ t.1 = neR m y t.2.toNat) (fun t => m 136 0 - t.2) (x, f) (fun r => r = neR m y (m 136 0).toNat)) := fun m2 h2 => ev_ck (by omega) (ev_inl ⟨⟨by show 0 ≤ f + 1 ∧ f + 1 ≤ _; omega, h2⟩, by show m 136 0 - (f + 1) < m 136 0 - f; omega, by show 0 ≤ m 136 0 - f; omega⟩)
  by_cases z : m 139 f ≤ y ∧ y < m 140 f
  · rw [if_pos z, if_neg (show ¬ (1 : Int) = 0 by decide)]
    by_cases w : x = -1
    · rw [if_pos w, ix_e _ h120]
      exact fin _ (by rw [neR_s g1.1, if_pos z, if_pos (by rw [← g2]; exact w)])
    · rw [if_neg w, ix_e _ h120]
      refine ev_if (fun hl => ?_) (fun hl => ?_)
      · rw [ix_e _ h120]
        exact fin _ (by rw [neR_s g1.1, if_pos z, if_neg (by rw [← g2]; exact w), ← g2]; omega)
      · exact fin _ (by rw [neR_s g1.1, if_pos z, if_neg (by rw [← g2]; exact w), ← g2]; omega)
  · rw [if_neg z, if_pos rfl]
    exact fin _ (by rw [neR_s g1.1, if_neg z]; exact g2)
/-- the class keeps the same, told from the block's own corner -/
def nX (E x : Int) : Int := if x = -1 then -1 else x + E
theorem neR_in (hT : ∀ f : Int, 0 ≤ f → f < F → 0 ≤ m 140 f) : ∀ k : Nat, (k : Int) ≤ F → -1 ≤ neR m y k := by
  intro k
  induction k with
  | zero => intro _; simp only [neR]; omega
  | succ k ih =>
    intro hk
    have h1 := ih (by omega)
    have h2 := hT k (by omega) (by omega)
    simp only [neR]
    (repeat' split) <;> omega
theorem c_openAt (hB : BK n m v E wd) (h17 : n 5 0 17 = F) (hF : 0 ≤ F ∧ F ≤ 120) (hT : FTb n m E F) : N_Layout_openAt (y + E) n = some (wO n (leR m y F.toNat + E) (riR m y F.toNat + E) (nX E (neR m y F.toNat))) := by
  obtain ⟨b1, b2, b3, b4, b5, b6, b7, b8⟩ := hB
  apply eq_of_ev
  unfold N_Layout_openAt NL_Layout_openAt_47 st
  dsimp only
  simp only [nw_nK (show (3 : Nat) ≠ 5 by decide), nw_ns (show (8 : Int) ≠ 12 by decide), b1, b3, b5]
  refine ev_nn b2.1 (ev_nn b2.1 (ev_nn b2.1 (ev_nn b2.1 (ev_ck (by omega) ?_))))
  have hpos : ∀ f : Int, 0 ≤ f → f < F → 0 ≤ m 140 f := fun f x y => by have := (hT f x y).2.2.2.2.1.1; omega
  refine ev_bind (P := fun n' => n' = wO n (leR m y F.toNat + E) (riR m y F.toNat + E) (nX E (neR m y F.toNat))) (ev_it (fun t : Int × NS => (0 ≤ t.1 ∧ t.1 ≤ F) ∧ t.2 = wO n (leR m y t.1.toNat + E) (riR m y t.1.toNat + E) (nX E (neR m y t.1.toNat))) (fun t => F - t.1) (fun t ht => ?_) ⟨by show (0 : Int) ≤ 0 ∧ (0 : Int) ≤ _; omega, ?_⟩) (fun m' h => ev_ok h)
  · obtain ⟨f, n1⟩ := t
    obtain ⟨g1, g2⟩ := ht
    simp only at g1 g2
    show ev (nb_Layout_openAt_47 (y + E) f n1) _
    unfold nb_Layout_openAt_47 nk_Layout_openAt_128 st
    rw [g2]
    simp only [wO_K (n := n) (show (43 : Nat) ≠ 5 by decide), wO_K (n := n) (show (3 : Nat) ≠ 5 by decide), wO_s (n := n) (show (17 : Int) ≠ 12 by decide) (show (17 : Int) ≠ 13 by decide) (show (17 : Int) ≠ 14 by decide), h17, wO_a, wO_b, wO_c, nw_nK (show (3 : Nat) ≠ 5 by decide), nw_ns (show (12 : Int) ≠ 14 by decide), nw_ns (show (13 : Int) ≠ 14 by decide), wO_12, wO_13, wO_14]
    refine ev_if (fun hlt => ?_) (fun hge => ev_inr (by show wO n _ _ _ = _; rw [show f = F by omega]))
    obtain ⟨t1, t2, t3, t4, t5, t6⟩ := hT f g1.1 hlt
    have h120 : 0 ≤ f ∧ f < 120 := by omega
    have hne := neR_in (m := m) (y := y) hpos f.toNat (by omega)
    have fin : ∀ m2, m2 = wO n (leR m y (f + 1).toNat + E) (riR m y (f + 1).toNat + E) (nX E (neR m y (f + 1).toNat)) → ev (ck (f + 1) (some (Sum.inl (f + 1, m2)))) (lp (fun t : Int × NS => (0 ≤ t.1 ∧ t.1 ≤ F) ∧ t.2 = wO n (leR m y t.1.toNat + E) (riR m y t.1.toNat + E) (nX E (neR m y t.1.toNat))) (fun t => F - t.1) (f, n1) (fun n' => n' = wO n (leR m y F.toNat + E) (riR m y F.toNat + E) (nX E (neR m y F.toNat)))) := fun m2 h2 => ev_ck (by omega) (ev_inl ⟨⟨by show 0 ≤ f + 1 ∧ f + 1 ≤ _; omega, h2⟩, by show F - (f + 1) < F - f; omega, by show 0 ≤ F - f; omega⟩)
    generalize n 43 0 f = u at *
    refine ev_ix h120 (ev_ix t1 (ev_ck (by omega) (ev_ck (by omega) (ev_ck (by omega) ?_))))
    rw [t3.1, t3.2, t4]
    by_cases z : m 139 f ≤ y ∧ y < m 140 f
    · rw [if_neg (show ¬ (y + E < m 139 f + E) by omega), if_pos (show y + E < m 140 f + E by omega)]
      have e14 : ∀ x, x = nX E (neR m y (f + 1).toNat) → ev (if m 141 f = 1 then ck (n 3 u 2 + n 3 u 4) (ck (n 3 u 2 + n 3 u 4 + n 3 u 6) (ck (f + 1) (some (Sum.inl (f + 1, wO n (max (leR m y f.toNat + E) (n 3 u 2 + n 3 u 4 + n 3 u 6)) (riR m y f.toNat + E) x))))) else ck (n 3 u 2 - n 3 u 6) (ck (f + 1) (some (Sum.inl (f + 1, wO n (leR m y f.toNat + E) (min (riR m y f.toNat + E) (n 3 u 2 - n 3 u 6)) x))))) (lp (fun t : Int × NS => (0 ≤ t.1 ∧ t.1 ≤ F) ∧ t.2 = wO n (leR m y t.1.toNat + E) (riR m y t.1.toNat + E) (nX E (neR m y t.1.toNat))) (fun t => F - t.1) (f, n1) (fun n' => n' = wO n (leR m y F.toNat + E) (riR m y F.toNat + E) (nX E (neR m y F.toNat)))) := fun x hx => by
        by_cases w : m 141 f = 1
        · rw [if_pos w]
          refine ev_ck (by omega) (ev_ck (by omega) (fin _ ?_))
          rw [hx, leR_s g1.1, riR_s g1.1, if_pos z, if_pos z, if_pos w, if_pos w, t2.2, show max (leR m y f.toNat + E) (m 138 f + E) = max (leR m y f.toNat) (m 138 f) + E by omega]
        · rw [if_neg w]
          refine ev_ck (by omega) (fin _ ?_)
          rw [hx, leR_s g1.1, riR_s g1.1, if_pos z, if_pos z, if_neg w, if_neg w, t2.1, show min (riR m y f.toNat + E) (m 137 f + E) = min (riR m y f.toNat) (m 137 f) + E by omega]
      have hx0 := neR_s (m := m) (y := y) g1.1
      rw [if_pos z] at hx0
      by_cases w : neR m y f.toNat = -1
      · rw [if_pos (show nX E (neR m y f.toNat) = -1 by unfold nX; rw [if_pos w])]
        refine e14 _ ?_
        rw [if_pos w] at hx0
        rw [hx0]; unfold nX; rw [if_neg (by omega)]
      · have e1 : nX E (neR m y f.toNat) = neR m y f.toNat + E := by unfold nX; rw [if_neg w]
        rw [if_neg (show ¬ nX E (neR m y f.toNat) = -1 by rw [e1]; omega)]
        refine e14 _ ?_
        rw [if_neg w] at hx0
        rw [hx0, e1]; unfold nX; rw [if_neg (by omega)]; omega
    · have hs : wO n (leR m y f.toNat + E) (riR m y f.toNat + E) (nX E (neR m y f.toNat)) = wO n (leR m y (f + 1).toNat + E) (riR m y (f + 1).toNat + E) (nX E (neR m y (f + 1).toNat)) := by
        rw [leR_s g1.1, riR_s g1.1, neR_s g1.1, if_neg z, if_neg z, if_neg z]
      by_cases w : y + E < m 139 f + E
      · rw [if_pos w]; exact fin _ hs
      · rw [if_neg w, if_neg (by omega)]; exact fin _ hs
  · show nw (nw (nw n 5 0 12 E) 5 0 13 (max E (wd - E))) 5 0 14 (-1) = wO n (leR m y 0 + E) (riR m y 0 + E) (nX E (neR m y 0))
    simp only [leR, riR, neR]
    rw [b7, show (0 : Int) + E = E by omega, show max 0 (wd - 2 * E) + E = max E (wd - E) by omega]
    unfold nX
    rw [if_pos rfl]; rfl
end V6
