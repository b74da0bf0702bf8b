/-! A FLOAT is put, in both -/
section V7
variable {n n' : NS} {m m' : YS} {a b c y q s E F v wd u w mg : Int}
theorem ne_ex : ∀ k : Nat, neR m y k ≠ -1 → ∃ f : Nat, f < k ∧ m 139 f ≤ y ∧ y < m 140 f ∧ m 140 f = neR m y k := by
  intro k
  induction k with
  | zero => intro h; exact absurd rfl h
  | succ k ih =>
    intro h
    by_cases z : m 139 k ≤ y ∧ y < m 140 k
    · by_cases x : neR m y k = -1
      · refine ⟨k, by omega, z.1, z.2, ?_⟩
        simp only [neR]; rw [if_pos z, if_pos x]
      · obtain ⟨f, f1, f2, f3, f4⟩ := ih x
        have e : neR m y (k + 1) = min (neR m y k) (m 140 k) := by simp only [neR]; rw [if_pos z, if_neg x]
        by_cases w : neR m y k ≤ m 140 k
        · exact ⟨f, by omega, f2, f3, by rw [e]; omega⟩
        · exact ⟨k, by omega, z.1, z.2, by rw [e]; omega⟩
    · have e : neR m y (k + 1) = neR m y k := by simp only [neR]; rw [if_neg z]
      rw [e] at h
      obtain ⟨f, f1, f2, f3, f4⟩ := ih h
      exact ⟨f, by omega, f2, f3, by rw [e]; exact f4⟩
theorem ne_none : ∀ k : Nat, (∀ f : Int, 0 ≤ f → f < k → 0 ≤ m 140 f) → neR m y k = -1 → leR m y k = 0 ∧ riR m y k = m 145 0 := by
  intro k
  induction k with
  | zero => intro _ _; exact ⟨rfl, rfl⟩
  | succ k ih =>
    intro h0 h
    by_cases z : m 139 k ≤ y ∧ y < m 140 k
    · exfalso
      obtain ⟨hk⟩ : Nonempty (0 ≤ m 140 k) := ⟨h0 k (by omega) (by omega)⟩
      by_cases x : neR m y k = -1
      · simp only [neR] at h; rw [if_pos z, if_pos x] at h; omega
      · obtain ⟨f, f1, f2, f3, f4⟩ := ne_ex k x
        have := h0 f (by omega) (by omega)
        simp only [neR] at h; rw [if_pos z, if_neg x] at h; omega
    · have e : neR m y (k + 1) = neR m y k := by simp only [neR]; rw [if_neg z]
      rw [e] at h
      obtain ⟨i1, i2⟩ := ih (fun f x y => h0 f x (by omega)) h
      simp only [leR, riR]
      rw [if_neg z, if_neg z]
      exact ⟨i1, i2⟩
theorem cn_le : ∀ k : Nat, cnE m y k ≤ k := by
  intro k
  induction k with
  | zero => exact Nat.le_refl _
  | succ k ih =>
    simp only [cnE]
    split <;> omega
theorem cn_mono (h : y ≤ q) : ∀ k : Nat, cnE m q k ≤ cnE m y k := by
  intro k
  induction k with
  | zero => exact Nat.le_refl _
  | succ k ih =>
    simp only [cnE]
    by_cases z : q < m 140 k
    · rw [if_pos z, if_pos (by omega)]; omega
    · rw [if_neg z]; omega
theorem cn_lt {f : Nat} (h1 : y < m 140 f) (h2 : m 140 f = q) : ∀ k : Nat, f < k → cnE m q k < cnE m y k := by
  intro k
  induction k with
  | zero => intro h; omega
  | succ k ih =>
    intro h
    simp only [cnE]
    by_cases z : f = k
    · have := cn_mono (m := m) (y := y) (q := q) (by omega) k
      subst z
      rw [if_neg (by omega), if_pos h1]; omega
    · have := ih (by omega)
      by_cases x : q < m 140 k
      · rw [if_pos x, if_pos (by omega)]; omega
      · rw [if_neg x]; omega
theorem mxE_ge : ∀ k : Nat, 0 ≤ mxE m k ∧ ∀ f : Int, 0 ≤ f → f < k → m 140 f ≤ mxE m k := by
  intro k
  induction k with
  | zero => exact ⟨Int.le_refl _, fun f x y => by omega⟩
  | succ k ih =>
    simp only [mxE]
    refine ⟨by omega, fun f x y => ?_⟩
    by_cases z : f = k
    · rw [z]; omega
    · have := ih.2 f x (by omega); omega
theorem mxT_b : ∀ k : Nat, (∀ f : Int, 0 ≤ f → f < k → m 139 f ≤ m 140 f) → a ≤ mxT m a k ∧ mxT m a k ≤ max a (mxE m k) := by
  intro k
  induction k with
  | zero => intro _; simp only [mxT, mxE]; omega
  | succ k ih =>
    intro h
    have := ih (fun f x y => h f x (by omega))
    have := h k (by omega) (by omega)
    simp only [mxT, mxE]; omega
theorem lr_b (h0 : 0 ≤ m 145 0) : ∀ k : Nat, (∀ f : Int, 0 ≤ f → f < k → -2000000 ≤ m 137 f ∧ m 138 f ≤ 2000000) → (0 ≤ leR m y k ∧ leR m y k ≤ 2000000) ∧ -2000000 ≤ riR m y k ∧ riR m y k ≤ m 145 0 := by
  intro k
  induction k with
  | zero => intro _; simp only [leR, riR]; omega
  | succ k ih =>
    intro h
    have := ih (fun f x y => h f x (by omega))
    have := h k (by omega) (by omega)
    simp only [leR, riR]
    (repeat' split) <;> omega
theorem BK.wO (hB : BK n m v E wd) : BK (wO n a b c) m v E wd := by
  unfold BK at *
  rw [wO_s (by decide) (by decide) (by decide), wO_K (show (3 : Nat) ≠ 5 by decide)]; exact hB
theorem FTb.wO (hT : FTb n m E F) : FTb (wO n a b c) m E F := by
  unfold FTb at *
  rw [wO_K (show (3 : Nat) ≠ 5 by decide), wO_K (show (43 : Nat) ≠ 5 by decide)]; exact hT
/-- how far down it goes -/
theorem flt_loop (hB : BK n m v E wd) (h17 : n 5 0 17 = F) (h136 : m 136 0 = F) (hF : 0 ≤ F ∧ F ≤ 120) (hT : FTb n m E F) (hw : 0 ≤ w ∧ w ≤ 2000000) : ∀ (z : Nat) (y g : Int), cnE m y F.toNat ≤ z → 0 ≤ g → g + (cnE m y F.toNat : Int) ≤ 120 →
    ∃ y', NL_Layout_putFloat_70 u w (y + E) g (wO n (leR m y F.toNat + E) (riR m y F.toNat + E) (nX E (neR m y F.toNat))) = some (y' + E, wO n (leR m y' F.toNat + E) (riR m y' F.toNat + E) (nX E (neR m y' F.toNat)))
      ∧ NL_Y_putFloat_70 u mg w y (neR m y F.toNat) (wE m (leR m y F.toNat) (riR m y F.toNat)) = some (y', wE m (leR m y' F.toNat) (riR m y' F.toNat)) ∧ y ≤ y' ∧ y' ≤ max y (mxE m F.toNat) ∧ (leR m y' F.toNat + w ≤ riR m y' F.toNat ∨ neR m y' F.toNat = -1) := by
  have hpos : ∀ f : Int, 0 ≤ f → f < F → 0 ≤ m 140 f := fun f x y => by have := (hT f x y).2.2.2.2.1.1; omega
  have h145 : 0 ≤ m 145 0 ∧ m 145 0 ≤ 1300000 := by have := hB.2.2.2.2.2.2.1; have := hB.2.2.2.2.2.1; have := hB.2.2.2.1; omega
  have hE := hB.2.2.2.1
  have lrb : ∀ y, (0 ≤ leR m y F.toNat ∧ leR m y F.toNat ≤ 2000000) ∧ -2000000 ≤ riR m y F.toNat ∧ riR m y F.toNat ≤ m 145 0 := fun y => lr_b h145.1 F.toNat (fun f x y => by have := (hT f x (by omega)).2.2.2.2.1.2; omega)
  have stop : ∀ (y g : Int), 0 ≤ g → g + (cnE m y F.toNat : Int) ≤ 120 → (leR m y F.toNat + w ≤ riR m y F.toNat ∨ neR m y F.toNat = -1) → ∃ y', NL_Layout_putFloat_70 u w (y + E) g (wO n (leR m y F.toNat + E) (riR m y F.toNat + E) (nX E (neR m y F.toNat))) = some (y' + E, wO n (leR m y' F.toNat + E) (riR m y' F.toNat + E) (nX E (neR m y' F.toNat)))
      ∧ NL_Y_putFloat_70 u mg w y (neR m y F.toNat) (wE m (leR m y F.toNat) (riR m y F.toNat)) = some (y', wE m (leR m y' F.toNat) (riR m y' F.toNat)) ∧ y ≤ y' ∧ y' ≤ max y (mxE m F.toNat) ∧ (leR m y' F.toNat + w ≤ riR m y' F.toNat ∨ neR m y' F.toNat = -1) := fun y g hg hc hs => by
    have lb := lrb y
    refine ⟨y, ?_, ?_, Int.le_refl _, by omega, hs⟩
    · unfold NL_Layout_putFloat_70
      refine it_inr ?_
      show nb_Layout_putFloat_70 u w (y + E) g _ = _
      dsimp only
      unfold nb_Layout_putFloat_70
      rw [if_neg (by omega), wO_a, wO_b, wO_c, ck_e _ (by omega)]
      by_cases x : riR m y F.toNat + E - (leR m y F.toNat + E) < w
      · rw [if_pos x, if_pos (show nX E (neR m y F.toNat) = -1 by rcases hs with z | z; omega; unfold nX; rw [if_pos z])]
      · rw [if_neg x]
    · unfold NL_Y_putFloat_70
      refine it_inr ?_
      show nb_Y_putFloat_70 u mg w y (neR m y F.toNat) _ = _
      dsimp only
      unfold nb_Y_putFloat_70
      rw [wE_l, wE_r, ck_e _ (by omega)]
      by_cases x : riR m y F.toNat < leR m y F.toNat + w
      · rw [if_pos x, if_pos (show neR m y F.toNat = -1 by rcases hs with z | z; omega; exact z)]
      · rw [if_neg x]
  intro z
  induction z with
  | zero =>
    intro y g hz hg hc
    by_cases hs : leR m y F.toNat + w ≤ riR m y F.toNat ∨ neR m y F.toNat = -1
    · exact stop y g hg hc hs
    · exfalso
      obtain ⟨f, f1, f2, f3, f4⟩ := ne_ex (m := m) (y := y) F.toNat (fun x => hs (.inr x))
      have := cn_lt (m := m) f3 rfl F.toNat f1
      omega
  | succ z ih =>
    intro y g hz hg hc
    by_cases hs : leR m y F.toNat + w ≤ riR m y F.toNat ∨ neR m y F.toNat = -1
    · exact stop y g hg hc hs
    · have lb := lrb y
      obtain ⟨f, f1, f2, f3, f4⟩ := ne_ex (m := m) (y := y) F.toNat (fun x => hs (.inr x))
      have hcl := cn_lt (m := m) f3 f4 F.toNat f1
      have hge := (mxE_ge (m := m) F.toNat).2 f (by omega) (by omega)
      have hp0 := hpos f (by omega) (by omega)
      obtain ⟨y', r1, r2, r3, r4, r5⟩ := ih (neR m y F.toNat) (g + 1) (by omega) (by omega) (by omega)
      refine ⟨y', ?_, ?_, by omega, by omega, r5⟩
      · rw [← r1]
        unfold NL_Layout_putFloat_70
        refine it_inl ?_
        show nb_Layout_putFloat_70 u w (y + E) g _ = _
        dsimp only
        unfold nb_Layout_putFloat_70
        have e1 : nX E (neR m y F.toNat) = neR m y F.toNat + E := by unfold nX; rw [if_neg (fun x => hs (.inr x))]
        rw [if_neg (by omega), wO_a, wO_b, wO_c, ck_e _ (by omega), if_pos (show riR m y F.toNat + E - (leR m y F.toNat + E) < w by omega), e1, if_neg (show ¬ neR m y F.toNat + E = -1 by omega)]
        rw [c_openAt (y := neR m y F.toNat) hB.wO (by rw [wO_s (by decide) (by decide) (by decide)]; exact h17) hF hT.wO, wO_wO]
        simp only [Option.bind_some]
        rw [ck_e _ (by omega)]
      · rw [← r2]
        unfold NL_Y_putFloat_70
        refine it_inl ?_
        show nb_Y_putFloat_70 u mg w y (neR m y F.toNat) _ = _
        dsimp only
        unfold nb_Y_putFloat_70
        have e136 : ∀ a b, wE m a b 136 = m 136 := fun a b => wE_o (by decide) (by decide)
        rw [wE_l, wE_r, ck_e _ (by omega), if_pos (show riR m y F.toNat < leR m y F.toNat + w by omega), if_neg (fun x => hs (.inr x))]
        have q1 := flR_w (m := m) (a := leR m y F.toNat) (b := riR m y F.toNat) (y := neR m y F.toNat) (q := F)
        have q2 := flR_w (m := m) (a := leR m (neR m y F.toNat) F.toNat) (b := riR m (neR m y F.toNat) F.toNat) (y := neR m y F.toNat) (q := F)
        have g1 : N_Y_edgesAt (neR m y F.toNat) (wE m (leR m y F.toNat) (riR m y F.toNat)) = some (wE m (leR m (neR m y F.toNat) F.toNat) (riR m (neR m y F.toNat) F.toNat)) := by
          rw [y_edgesAt (by rw [e136]; omega), e136, h136, wE_wE, q1.1, q1.2.1]
        have g2 : N_Y_leastEnd (neR m y F.toNat) (wE m (leR m (neR m y F.toNat) F.toNat) (riR m (neR m y F.toNat) F.toNat)) = some (neR m (neR m y F.toNat) F.toNat) := by
          rw [y_leastEnd (by rw [e136]; omega), e136, h136, q2.2.2.1]
        rw [g1]
        simp only [Option.bind_some]
        rw [g2]
        simp only [Option.bind_some]
theorem c_tops (hT : FTb n m E F) (h17 : n 5 0 17 = F) (hF : 0 ≤ F ∧ F ≤ 120) (ha : 0 ≤ a ∧ a ≤ 2000000) (hE : 0 ≤ E ∧ E ≤ 50) : NL_Layout_putFloat_7 u (a + E) 0 n = some (mxT m a F.toNat + E) := by
  apply eq_of_ev
  unfold NL_Layout_putFloat_7
  refine ev_it (fun t : Int × Int => (0 ≤ t.2 ∧ t.2 ≤ F) ∧ t.1 = mxT m a t.2.toNat + E) (fun t => F - t.2) (fun t ht => ?_) ⟨by show (0 : Int) ≤ 0 ∧ (0 : Int) ≤ _; omega, rfl⟩
  obtain ⟨x, f⟩ := t
  obtain ⟨g1, g2⟩ := ht
  simp only at g1 g2
  show ev (nb_Layout_putFloat_7 u x f n) _
  unfold nb_Layout_putFloat_7
  rw [h17]
  refine ev_if (fun hlt => ?_) (fun hge => ev_inr (by show x = _; rw [g2, show f = F by omega]))
  obtain ⟨t1, t2, t3, t4, t5, t6⟩ := hT f g1.1 hlt
  refine ev_ix (by omega) (ev_ix t1 (ev_ck (by omega) (ev_ck (by omega) (ev_inl ⟨⟨by show 0 ≤ f + 1 ∧ f + 1 ≤ _; omega, ?_⟩, by show F - (f + 1) < F - f; omega, by show 0 ≤ F - f; omega⟩))))
  show max x _ = mxT m a (f + 1).toNat + E
  rw [mxT_s g1.1, g2, t3.1]; omega
theorem y_tops {x1 x2 x3 : Int} (h136 : m 136 0 = F) (hF : 0 ≤ F ∧ F ≤ 120) : NL_Y_putFloat_27 x1 x2 x3 a 0 m = some (mxT m a F.toNat) := by
  apply eq_of_ev
  unfold NL_Y_putFloat_27
  refine ev_it (fun t : Int × Int => (0 ≤ t.2 ∧ t.2 ≤ F) ∧ t.1 = mxT m a t.2.toNat) (fun t => F - t.2) (fun t ht => ?_) ⟨by show (0 : Int) ≤ 0 ∧ (0 : Int) ≤ _; omega, rfl⟩
  obtain ⟨x, f⟩ := t
  obtain ⟨g1, g2⟩ := ht
  simp only at g1 g2
  show ev (nb_Y_putFloat_27 x1 x2 x3 x f m) _
  unfold nb_Y_putFloat_27
  rw [h136]
  refine ev_if (fun hlt => ?_) (fun hge => ev_inr (by show x = _; rw [g2, show f = F by omega]))
  refine ev_ix (by omega) (ev_ck (by omega) (ev_inl ⟨⟨by show 0 ≤ f + 1 ∧ f + 1 ≤ _; omega, ?_⟩, by show F - (f + 1) < F - f; omega, by show 0 ≤ F - f; omega⟩))
  show max x _ = mxT m a (f + 1).toNat
  rw [mxT_s g1.1, g2]
theorem y_of {p : Int} (hv : 0 ≤ v ∧ v < 120) (hp : 0 ≤ p ∧ p < 11) : N_Y_of v p m = some (m 105 (11 * v + p)) := by
  unfold N_Y_of
  rw [ck_e _ (by omega), ck_e _ (by omega), ix_e _ (by omega)]
/-- what a FLOAT's place changes, of the table -/
def TBs (m m' : YS) (F : Int) : Prop := ∀ f, 0 ≤ f → f < F → m' 137 f = m 137 f ∧ m' 138 f = m 138 f ∧ m' 139 f = m 139 f ∧ m' 140 f = m 140 f ∧ m' 141 f = m 141 f
theorem putFloat_both (hB : BK n m v E wd) (h17 : n 5 0 17 = F) (h136 : m 136 0 = F) (hF : 0 ≤ F ∧ F ≤ 118) (hT : FTb n m E F) (h19 : n 5 0 19 = mxE m F.toNat + E)
    (h11 : n 5 0 11 = m 127 0 + E) (hl : 0 ≤ m 127 0) (hu : 0 ≤ u ∧ u < 120) (h0 : n 3 u 0 = 1) (h43 : n 43 0 F = u) (hfr : ∀ f, 0 ≤ f → f < F → n 43 0 f ≠ u)
    (h6 : n 3 u 6 = m 105 (11 * u + 3)) (h6b : 0 ≤ n 3 u 6 ∧ n 3 u 6 ≤ 20) (h4 : n 3 u 4 = m 112 u) (h4b : 0 ≤ n 3 u 4 ∧ n 3 u 4 ≤ 1300000) (h5 : n 3 u 5 = m 113 u) (h5b : 0 ≤ n 3 u 5)
    (h13 : n 3 u 13 = m 105 (11 * u + 10)) (h13b : n 3 u 13 = 1 ∨ n 3 u 13 = 2) (hb : max (m 127 0) (mxE m F.toNat) + n 3 u 5 + 2 * n 3 u 6 ≤ 1000000) :
    ∃ n' m', N_Layout_putFloat u n = some n' ∧ N_Y_putFloat u m = some m' ∧ ((∀ K, K ≠ 3 → K ≠ 5 → n' K = n K) ∧ (∀ a s, ¬ (a = u ∧ (s = 2 ∨ s = 3)) → n' 3 a s = n 3 a s) ∧ ∀ s, s ≠ 12 → s ≠ 13 → s ≠ 14 → s ≠ 19 → n' 5 0 s = n 5 0 s)
      ∧ (FY [110, 111, 128, 129, 136, 137, 138, 139, 140, 141] m m' ∧ (∀ a, a ≠ u → m' 110 a = m 110 a ∧ m' 111 a = m 111 a) ∧ TBs m m' F)
      ∧ m' 136 0 = F + 1 ∧ FTb n' m' E (F + 1) ∧ n' 5 0 19 = mxE m' (F + 1).toNat + E ∧ mxE m' (F + 1).toNat ≤ max (m 127 0) (mxE m F.toNat) + n 3 u 5 + 2 * n 3 u 6
      ∧ (n' 3 u 2 = m' 110 u + E ∧ n' 3 u 3 = m' 111 u + E) ∧ (-2000000 ≤ m' 110 u ∧ m' 110 u ≤ 2000000) ∧ (0 ≤ m' 111 u ∧ m' 111 u ≤ 1000000) := by
  have hE := hB.2.2.2.1
  have hpos : ∀ f : Int, 0 ≤ f → f < F → 0 ≤ m 140 f := fun f x y => by have := (hT f x y).2.2.2.2.1.1; omega
  have h145 : 0 ≤ m 145 0 ∧ m 145 0 ≤ 1300000 := by have := hB.2.2.2.2.2.2.1; have := hB.2.2.2.2.2.1; omega
  have hmE := (mxE_ge (m := m) F.toNat).1
  have htb := mxT_b (m := m) (a := m 127 0) F.toNat (fun f x y => by have := (hT f x (by omega)).2.2.2.2.1.1; omega)
  have hcn := cn_le (m := m) (y := mxT m (m 127 0) F.toNat) F.toNat
  obtain ⟨y, r1, r2, r3, r4, r5⟩ := flt_loop (u := u) (w := n 3 u 4 + 2 * n 3 u 6) (mg := n 3 u 6) hB h17 h136 (by omega) hT (by omega) _ (mxT m (m 127 0) F.toNat) 0 (Nat.le_refl _) (Int.le_refl _) (by omega)
  have lb := lr_b (m := m) (y := y) h145.1 F.toNat (fun f x y => by have := (hT f x (by omega)).2.2.2.2.1.2; omega)
  have hnn := ne_none (m := m) (y := y) F.toNat (fun f x y => hpos f x (by omega))
  -- where it stands
  obtain ⟨left, hL⟩ : ∃ left, left = if n 3 u 13 = 1 then leR m y F.toNat else riR m y F.toNat - (n 3 u 4 + 2 * n 3 u 6) := ⟨_, rfl⟩
  have hLb : -1400000 ≤ left ∧ left ≤ 1300000 ∧ 0 ≤ left + (n 3 u 4 + 2 * n 3 u 6) ∧ left + (n 3 u 4 + 2 * n 3 u 6) ≤ 1400000 := by
    by_cases z : n 3 u 13 = 1
    · rw [if_pos z] at hL
      rcases r5 with x | x
      · omega
      · have := hnn x; omega
    · rw [if_neg z] at hL
      rcases r5 with x | x
      · omega
      · have := hnn x; omega
  obtain ⟨nA, hnA⟩ : ∃ nA, nA = wO n (leR m y F.toNat + E) (riR m y F.toNat + E) (nX E (neR m y F.toNat)) := ⟨_, rfl⟩
  obtain ⟨mA, hmA⟩ : ∃ mA, mA = wE m (leR m y F.toNat) (riR m y F.toNat) := ⟨_, rfl⟩
  have nAK : ∀ K, K ≠ 5 → nA K = n K := fun K hK => by rw [hnA]; exact wO_K hK
  have nA5 : ∀ s, s ≠ 12 → s ≠ 13 → s ≠ 14 → nA 5 0 s = n 5 0 s := fun s x y z => by rw [hnA]; exact wO_s x y z
  have mAf : ∀ f, f ≠ 128 → f ≠ 129 → mA f = m f := fun f x y => by rw [hmA]; exact wE_o x y
  have a3 : nA 3 = n 3 := nAK 3 (by decide)
  -- the class
  have hC : N_Layout_putFloat u n = some (nw (nw (nw nA 3 u 2 (left + E + n 3 u 6)) 3 u 3 (y + E + n 3 u 6)) 5 0 19 (max (mxE m F.toNat + E) (y + E + n 3 u 6 + n 3 u 5 + n 3 u 6))) := by
    unfold N_Layout_putFloat
    rw [h11, c_tops hT h17 (by omega) (by omega) hE]
    simp only [Option.bind_some]
    rw [ck_e _ (by omega), ck_e _ (by omega), c_openAt hB h17 (by omega) hT]
    simp only [Option.bind_some]
    rw [r1]
    simp only [Option.bind_some, u2]
    rw [← hnA]
    have h149 : ∀ x, x = left + E + n 3 u 6 → nk_Layout_putFloat_149 u (y + E) x u nA = some (nw (nw (nw nA 3 u 2 (left + E + n 3 u 6)) 3 u 3 (y + E + n 3 u 6)) 5 0 19 (max (mxE m F.toNat + E) (y + E + n 3 u 6 + n 3 u 5 + n 3 u 6))) := fun x hx => by
      subst hx
      unfold nk_Layout_putFloat_149 st
      dsimp only
      simp only [nw_ns (show (6 : Int) ≠ 2 by decide), nw_ns (show (6 : Int) ≠ 3 by decide), nw_ns (show (5 : Int) ≠ 2 by decide), nw_ns (show (5 : Int) ≠ 3 by decide), nw_eq, nw_nK (show (5 : Nat) ≠ 3 by decide), a3, nA5 19 (by decide) (by decide) (by decide), h19]
      rw [ck_e _ (by omega), ck_e _ (by omega), ck_e _ (by omega)]
    unfold nk_Layout_putFloat_114
    have e12 : nA 5 0 12 = leR m y F.toNat + E := by rw [hnA, wO_a]
    have e13 : nA 5 0 13 = riR m y F.toNat + E := by rw [hnA, wO_b]
    rw [a3, e12, e13]
    by_cases z : n 3 u 13 = 1
    · rw [if_pos z, ck_e _ (by omega)]
      rw [if_pos z] at hL
      exact h149 _ (by omega)
    · rw [if_neg z, ck_e _ (by omega), ck_e _ (by omega)]
      rw [if_neg z] at hL
      exact h149 _ (by omega)
  -- the reference
  obtain ⟨mB, hmB⟩ : ∃ mB, mB = yw (yw (yw (yw (yw (yw (yw (yw mA 137 F left) 138 F (left + (n 3 u 4 + 2 * n 3 u 6))) 139 F y) 140 F (y + n 3 u 5 + 2 * n 3 u 6)) 141 F (n 3 u 13)) 136 0 (F + 1)) 110 u (left + n 3 u 6)) 111 u (y + n 3 u 6) := ⟨_, rfl⟩
  have hY : N_Y_putFloat u m = some mB := by
    unfold N_Y_putFloat
    rw [y_of hu (by decide), ← h6]
    simp only [Option.bind_some]
    rw [ix_e _ hu, ← h4, ck_e _ (by omega), ck_e _ (by omega), y_tops h136 (by omega)]
    simp only [Option.bind_some]
    rw [y_edgesAt (by omega)]
    simp only [Option.bind_some]
    rw [y_leastEnd (by rw [wE_o (by decide) (by decide)]; omega), wE_o (show (136 : Nat) ≠ 128 by decide) (show (136 : Nat) ≠ 129 by decide), h136]
    simp only [Option.bind_some]
    rw [flR_w.2.2.1, r2]
    simp only [Option.bind_some, u2]
    rw [← hmA]
    have e105 : mA 105 = m 105 := mAf 105 (by decide) (by decide)
    have e136 : mA 136 0 = F := by rw [mAf 136 (by decide) (by decide)]; exact h136
    have h134 : ∀ x, x = left → nk_Y_putFloat_134 u (n 3 u 6) (n 3 u 4 + 2 * n 3 u 6) y x mA = some mB := fun x hx => by
      subst hx
      unfold nk_Y_putFloat_134 st
      dsimp only
      simp only [yw_nF (show (136 : Nat) ≠ 137 by decide), yw_nF (show (136 : Nat) ≠ 138 by decide), yw_nF (show (136 : Nat) ≠ 139 by decide), yw_nF (show (136 : Nat) ≠ 140 by decide), yw_nF (show (136 : Nat) ≠ 141 by decide), yw_nF (show (113 : Nat) ≠ 137 by decide), yw_nF (show (113 : Nat) ≠ 138 by decide), yw_nF (show (113 : Nat) ≠ 139 by decide), e136, mAf 113 (by decide) (by decide), ← h5]
      rw [ix_e _ (by omega), ck_e _ (by omega), ix_e _ (by omega), ix_e _ (by omega), ix_e _ hu, ck_e _ (by omega), ck_e _ (by omega), ck_e _ (by omega), ix_e _ (by omega), y_of hu (by decide)]
      simp only [Option.bind_some, yw_nF (show (105 : Nat) ≠ 137 by decide), yw_nF (show (105 : Nat) ≠ 138 by decide), yw_nF (show (105 : Nat) ≠ 139 by decide), yw_nF (show (105 : Nat) ≠ 140 by decide), e105, ← h13]
      rw [ix_e _ (by omega), ck_e _ (by omega), ck_e _ (by omega), ix_e _ hu, ck_e _ (by omega), ix_e _ hu, hmB]
    unfold nk_Y_putFloat_110
    rw [y_of hu (by decide), e105, ← h13]
    simp only [Option.bind_some]
    have e8 : mA 128 0 = leR m y F.toNat := by rw [hmA, wE_l]
    have e9 : mA 129 0 = riR m y F.toNat := by rw [hmA, wE_r]
    rw [e8, e9]
    by_cases z : n 3 u 13 = 1
    · rw [if_pos z]
      rw [if_pos z] at hL
      exact h134 _ (by omega)
    · rw [if_neg z, ck_e _ (by omega)]
      rw [if_neg z] at hL
      exact h134 _ (by omega)
  have mBf : ∀ f, f ∉ [110, 111, 128, 129, 136, 137, 138, 139, 140, 141] → mB f = m f := fun f hf => by
    simp only [List.mem_cons, List.not_mem_nil, or_false, not_or] at hf
    rw [hmB, yw_nF (by omega), yw_nF (by omega), yw_nF (by omega), yw_nF (by omega), yw_nF (by omega), yw_nF (by omega), yw_nF (by omega), yw_nF (by omega)]
    exact mAf f (by omega) (by omega)
  have tb : TBs m mB F := fun f f0 f1 => by
    rw [hmB]
    refine ⟨?_, ?_, ?_, ?_, ?_⟩
    · rw [yw_nF (by decide), yw_nF (by decide), yw_nF (by decide), yw_nF (by decide), yw_nF (by decide), yw_nF (by decide), yw_nF (by decide), yw_ni (by omega), mAf 137 (by decide) (by decide)]
    · rw [yw_nF (by decide), yw_nF (by decide), yw_nF (by decide), yw_nF (by decide), yw_nF (by decide), yw_nF (by decide), yw_ni (by omega), yw_nF (by decide), mAf 138 (by decide) (by decide)]
    · rw [yw_nF (by decide), yw_nF (by decide), yw_nF (by decide), yw_nF (by decide), yw_nF (by decide), yw_ni (by omega), yw_nF (by decide), yw_nF (by decide), mAf 139 (by decide) (by decide)]
    · rw [yw_nF (by decide), yw_nF (by decide), yw_nF (by decide), yw_nF (by decide), yw_ni (by omega), yw_nF (by decide), yw_nF (by decide), yw_nF (by decide), mAf 140 (by decide) (by decide)]
    · rw [yw_nF (by decide), yw_nF (by decide), yw_nF (by decide), yw_ni (by omega), yw_nF (by decide), yw_nF (by decide), yw_nF (by decide), yw_nF (by decide), mAf 141 (by decide) (by decide)]
  have b137 : mB 137 F = left := by rw [hmB, yw_nF (by decide), yw_nF (by decide), yw_nF (by decide), yw_nF (by decide), yw_nF (by decide), yw_nF (by decide), yw_nF (by decide), yw_eq]
  have b138 : mB 138 F = left + (n 3 u 4 + 2 * n 3 u 6) := by rw [hmB, yw_nF (by decide), yw_nF (by decide), yw_nF (by decide), yw_nF (by decide), yw_nF (by decide), yw_nF (by decide), yw_eq]
  have b139 : mB 139 F = y := by rw [hmB, yw_nF (by decide), yw_nF (by decide), yw_nF (by decide), yw_nF (by decide), yw_nF (by decide), yw_eq]
  have b140 : mB 140 F = y + n 3 u 5 + 2 * n 3 u 6 := by rw [hmB, yw_nF (by decide), yw_nF (by decide), yw_nF (by decide), yw_nF (by decide), yw_eq]
  have b141 : mB 141 F = n 3 u 13 := by rw [hmB, yw_nF (by decide), yw_nF (by decide), yw_nF (by decide), yw_eq]
  have b136 : mB 136 0 = F + 1 := by rw [hmB, yw_nF (by decide), yw_nF (by decide), yw_eq]
  have b110 : mB 110 u = left + n 3 u 6 := by rw [hmB, yw_nF (by decide), yw_eq]
  have b111 : mB 111 u = y + n 3 u 6 := by rw [hmB, yw_eq]
  have hmx := (flR_cg (m := m) (m' := mB) (y := 0) (a := 0) (by rw [mBf 145 (by decide)]) F.toNat (fun f x y => tb f x (by omega))).2.2.2.1
  obtain ⟨nB, hnB⟩ : ∃ nB, nB = nw (nw (nw nA 3 u 2 (left + E + n 3 u 6)) 3 u 3 (y + E + n 3 u 6)) 5 0 19 (max (mxE m F.toNat + E) (y + E + n 3 u 6 + n 3 u 5 + n 3 u 6)) := ⟨_, rfl⟩
  have nBK : ∀ K, K ≠ 3 → K ≠ 5 → nB K = n K := fun K x y => by rw [hnB, nw_nK y, nw_nK x, nw_nK x]; exact nAK K y
  have nB3 : ∀ a s, ¬ (a = u ∧ (s = 2 ∨ s = 3)) → nB 3 a s = n 3 a s := fun a s h => by
    rw [hnB, nw_nK (show (3 : Nat) ≠ 5 by decide)]
    by_cases z : a = u
    · rw [nw_ns (by omega), nw_ns (by omega), a3]
    · rw [nw_ni z, nw_ni z, a3]
  have nBx : nB 3 u 2 = left + E + n 3 u 6 := by rw [hnB, nw_nK (show (3 : Nat) ≠ 5 by decide), nw_ns (by decide), nw_eq]
  have nBy : nB 3 u 3 = y + E + n 3 u 6 := by rw [hnB, nw_nK (show (3 : Nat) ≠ 5 by decide), nw_eq]
  refine ⟨nB, mB, by rw [hC, hnB], hY, ⟨nBK, nB3, fun s x y z w => ?_⟩, ⟨mBf, fun a ha => ?_, tb⟩, b136, fun f f0 f1 => ?_, ?_, ?_, ⟨by rw [nBx, b110]; omega, by rw [nBy, b111]; omega⟩, by omega, by omega⟩
  · rw [hnB, nw_ns w, nw_nK (show (5 : Nat) ≠ 3 by decide), nw_nK (show (5 : Nat) ≠ 3 by decide)]; exact nA5 s x y z
  · rw [hmB, yw_nF (show (110 : Nat) ≠ 111 by decide), yw_ni ha, yw_ni ha, yw_nF (show (110 : Nat) ≠ 136 by decide), yw_nF (show (110 : Nat) ≠ 141 by decide), yw_nF (show (110 : Nat) ≠ 140 by decide), yw_nF (show (110 : Nat) ≠ 139 by decide), yw_nF (show (110 : Nat) ≠ 138 by decide), yw_nF (show (110 : Nat) ≠ 137 by decide), yw_nF (show (111 : Nat) ≠ 110 by decide), yw_nF (show (111 : Nat) ≠ 136 by decide), yw_nF (show (111 : Nat) ≠ 141 by decide), yw_nF (show (111 : Nat) ≠ 140 by decide), yw_nF (show (111 : Nat) ≠ 139 by decide), yw_nF (show (111 : Nat) ≠ 138 by decide), yw_nF (show (111 : Nat) ≠ 137 by decide), mAf 110 (by decide) (by decide), mAf 111 (by decide) (by decide)]
    exact ⟨rfl, rfl⟩
  · rw [nBK 43 (by decide) (by decide)]
    by_cases z : f = F
    · rw [z, h43, nBx, nBy, b137, b138, b139, b140, b141, nB3 u 6 (by omega), nB3 u 4 (by omega), nB3 u 5 (by omega), nB3 u 13 (by omega), nB3 u 0 (by omega)]
      exact ⟨hu, ⟨by omega, by omega⟩, ⟨by omega, by omega⟩, rfl, ⟨by omega, by omega⟩, h6b, h0⟩
    · have t := tb f f0 (by omega)
      have g := hT f f0 (by omega)
      have ne := hfr f f0 (by omega)
      rw [nB3 _ 2 (by omega), nB3 _ 3 (by omega), nB3 _ 4 (by omega), nB3 _ 5 (by omega), nB3 _ 6 (by omega), nB3 _ 13 (by omega), nB3 _ 0 (by omega), t.1, t.2.1, t.2.2.1, t.2.2.2.1, t.2.2.2.2]
      exact g
  · rw [mxE_s hF.1, hmx, b140, hnB, nw_eq]; omega
  · rw [mxE_s hF.1, hmx, b140]; omega
end V7
