/-! ALL IS MOVED to where it is on the screen, in both: what holds up to a place -/
/-- a box, a piece stands -/
def PLb (n : NS) (m : YS) (a r : Int) : Prop := (n 3 a 2 = m 110 a ∧ n 3 a 3 = m 111 a) ∧ (-6000000 * r ≤ m 110 a ∧ m 110 a ≤ 6000023 * r) ∧ (0 ≤ m 111 a ∧ m 111 a ≤ 1000023 * r)
/-- a word stands in the class, in the block q -/
def PLw (n : NS) (m : YS) (q w : Int) : Prop := (n 99 (n 5 0 5) (6 * w + 3) = m 121 w + n 3 q 8 + m 110 q ∧ n 99 (n 5 0 5) (6 * w + 4) = m 122 w + n 3 q 8 + m 111 q) ∧ (-6000000 ≤ m 121 w ∧ m 121 w ≤ 6000000) ∧ (0 ≤ m 122 w ∧ m 122 w ≤ 1000000)
/-- whose words they are -/
def COV (n : NS) (m : YS) (N : Int) (o : Int → Int) : Prop := (∀ w, 0 ≤ w → w < n 5 0 6 → ∃ r, 0 ≤ r ∧ r < N ∧ m 107 (o r) = 6 ∧ m 116 (o r) ≤ w ∧ w < m 116 (o r) + n 3 (o r) 19) ∧ ∀ r, 0 ≤ r → r < N → m 107 (o r) = 6 → m 116 (o r) + n 3 (o r) 19 = (if r + 1 < N then m 116 (o (r + 1)) else n 5 0 6)
def S3 (A B N : Int) (o e p : Int → Int) (k : Int) (n : NS) (m : YS) : Prop := (CTX n m N o e p (-1) ∧ BI A B n ∧ WLc n ∧ S18 n) ∧ ((m 125 0 = N ∧ ∀ r, 0 ≤ r → r < N → m 124 r = o r) ∧ n 5 0 6 = m 117 0 ∧ COV n m N o)
  ∧ (∀ r, 0 ≤ r → r < k → r < N → (m 107 (o r) = 1 ∨ m 107 (o r) = 2 ∨ m 107 (o r) = 4) → PLb n m (o r) r)
  ∧ (∀ r, 0 ≤ r → r < k → r < N → m 107 (o r) = 6 → ∀ w, m 116 (o r) ≤ w → w < m 116 (o r) + n 3 (o r) 19 → PLw n m (m 109 (o r)) w)
  ∧ (∀ r h, k ≤ r → 0 ≤ h → h < r → r < e h → r < N → m 109 (o r) = o h → m 107 (o r) ≠ 0 → ((m 107 (o r) = 1 ∨ m 107 (o r) = 2 ∨ m 107 (o r) = 4) → PSb n m (n 3 (o h) 8) (o r) (6000000 * (r - h))) ∧ (m 107 (o r) = 6 → ∀ w, m 116 (o r) ≤ w → w < m 116 (o r) + n 3 (o r) 19 → DNw n m (n 3 (o h) 8) w))
  ∧ (∀ r, k ≤ r → 0 ≤ r → r < N → n 3 (o r) 0 = 3 → n 3 (o r) 2 = 0 ∧ n 3 (o r) 3 = 0)
/-- what moving leaves -/
def F3n (n n' : NS) : Prop := (∀ K, K ≠ 3 → K ≠ 99 → n' K = n K) ∧ (∀ a s, s ≠ 2 → s ≠ 3 → n' 3 a s = n 3 a s) ∧ (∀ a, a ≠ n 5 0 5 → n' 99 a = n 99 a) ∧ (∀ j, j % 6 ≠ 3 → j % 6 ≠ 4 → n' 99 (n 5 0 5) j = n 99 (n 5 0 5) j)
section YD
variable {n n' n'' : NS} {m m' m'' : YS} {A B N a b c x y q s E v u w t k j r i L I X h fw kd md hh sd w0 : Int} {o e p g : Int → Int}
theorem COV.cg (hc : COV n m N o) (e6 : n' 5 0 6 = n 5 0 6) (e19 : ∀ a, n' 3 a 19 = n 3 a 19) (e107 : m' 107 = m 107) (e116 : m' 116 = m 116) : COV n' m' N o := by
  refine ⟨fun w x y => ?_, fun r x y z => ?_⟩
  · rw [e6] at y
    obtain ⟨r, r1, r2, r3, r4, r5⟩ := hc.1 w x y
    exact ⟨r, r1, r2, by rw [e107]; exact r3, by rw [e116]; exact r4, by rw [e116, e19]; exact r5⟩
  · rw [e107] at z
    rw [e116, e19, e6]; exact hc.2 r x y z
theorem F3n.refl : F3n n n := ⟨fun _ _ _ => rfl, fun _ _ _ _ => rfl, fun _ _ => rfl, fun _ _ _ => rfl⟩
theorem F3n.trans (h1 : F3n n n') (h2 : F3n n' n'') : F3n n n'' := by
  have e5 : n' 5 = n 5 := h1.1 5 (by decide) (by decide)
  refine ⟨fun K x y => (h2.1 K x y).trans (h1.1 K x y), fun a s x y => (h2.2.1 a s x y).trans (h1.2.1 a s x y), fun a x => (h2.2.2.1 a (by rw [e5]; exact x)).trans (h1.2.2.1 a x), fun j x y => ?_⟩
  have g := h2.2.2.2 j x y
  rw [e5] at g
  exact g.trans (h1.2.2.2 j x y)
/-- in which block what is laid stands -/
theorem CTX.hol (hC : CTX n m N o e p k) (j1 : 1 ≤ j) (hj : j < N) (h0 : m 107 (o j) ≠ 0) : ∃ h, (0 ≤ h ∧ h < j ∧ j < e h) ∧ (m 109 (o j) = o h ∧ n 3 (o j) 1 = o h) ∧ (m 107 (o h) = 1 ∨ m 107 (o h) = 2) ∧ (n 3 (o h) 8 = m 105 (11 * o h + 4) + m 105 (11 * o h + 5) ∧ 0 ≤ n 3 (o h) 8 ∧ n 3 (o h) 8 ≤ 23) := by
  rcases hC.2.2.2.2.1 j (by omega) hj with ⟨z, _⟩ | ⟨z, _⟩
  · exact absurd z h0
  · rcases z with z | ⟨h, b1, b2, b3, b4⟩
    · omega
    · have g := ((hC.2.2.2.2.1 h b1.1 (by omega)).box b3).2.2.2.1
      exact ⟨h, b1, b2, b3, g.1.2.2, g.2.2.2.2.1⟩
theorem y_edg (hv : 0 ≤ v ∧ v < 120) (he : E = m 105 (11 * v + 4) + m 105 (11 * v + 5)) (hE : 0 ≤ E ∧ E ≤ 23) : N_Y_edges v m = some E := by
  unfold N_Y_edges
  rw [y_of hv (by decide), y_of hv (by decide)]
  simp only [Option.bind_some]
  rw [← he, ck_e _ (by omega)]
/-- slots of what is laid -/
theorem MSk.s19 (hM : MSk n m o e p r) (h0 : m 107 (o r) ≠ 0) (h6 : m 107 (o r) ≠ 6) : n 3 (o r) 19 = 0 := by
  rcases hM with ⟨z, _⟩ | ⟨_, g | g | g | g | g⟩
  · exact absurd z h0
  · exact g.2.2.2.2.2.2.2
  · exact g.2.2.2.2.2.2
  · exact g.2.2.2
  · exact g.2.2.2.2
  · exact absurd g.1 h6
theorem MSk.k0 (hM : MSk n m o e p r) (h0 : m 107 (o r) ≠ 0) : n 3 (o r) 0 ≠ 0 := by
  rcases hM with ⟨z, _⟩ | ⟨_, g | g | g | g | g⟩
  · exact absurd z h0
  · have := g.2.1; omega
  · have := g.2.1; omega
  · have := g.2.1; omega
  · have := g.2.1; omega
  · have := g.2.1; omega
theorem MSk.k3 (hM : MSk n m o e p r) (h0 : m 107 (o r) ≠ 0) (hb : ¬ (m 107 (o r) = 1 ∨ m 107 (o r) = 2 ∨ m 107 (o r) = 4)) : n 3 (o r) 0 = 3 := by
  rcases hM with ⟨z, _⟩ | ⟨_, g | g | g | g | g⟩
  · exact absurd z h0
  · have := g.1; omega
  · have := g.1; omega
  · exact g.2.1
  · exact g.2.1
  · exact g.2.1
/-- one place further -/
theorem S3.next (hS : S3 A B N o e p k n m) (k0 : 1 ≤ k) (hkN : k < N) (hF : F3n n n') (h3 : ∀ a, a ≠ o k → n' 3 a = n 3 a) (h9 : ∀ j, j < 6 * n 3 (o k) 18 ∨ 6 * (n 3 (o k) 18 + n 3 (o k) 19) ≤ j ∨ m 107 (o k) = 0 → n' 99 (n 5 0 5) j = n 99 (n 5 0 5) j) (hY : FY [110, 111] m m') (hy : ∀ a, a ≠ o k → m' 110 a = m 110 a ∧ m' 111 a = m 111 a) (hb : m 107 (o k) = 1 ∨ m 107 (o k) = 2 ∨ m 107 (o k) = 4 → PLb n' m' (o k) k) (hw : m 107 (o k) = 6 → ∀ w, m 116 (o k) ≤ w → w < m 116 (o k) + n 3 (o k) 19 → PLw n' m' (m 109 (o k)) w) : S3 A B N o e p (k + 1) n' m' := by
  obtain ⟨⟨hC, hB, hW, h18⟩, ⟨c1, c2, c3⟩, a1, a2, a3, a4⟩ := hS
  have hf : ∀ f, f ∉ [110, 111] → m' f = m f := hY
  obtain ⟨g1, g2, g3, g4⟩ := hF
  have hG := hC.1
  have e5 : n' 5 = n 5 := g1 5 (by decide) (by decide)
  have e107 := hf 107 (by decide)
  have e116 := hf 116 (by decide)
  have e109 := hf 109 (by decide)
  have ne : ∀ r, 0 ≤ r → r < N → r ≠ k → o r ≠ o k := fun r x y z w => z (hG.inj (j := r) (k := k) x y (by omega) hkN w)
  have e19 : ∀ a, n' 3 a 19 = n 3 a 19 := fun a => g2 a 19 (by decide) (by decide)
  have wd : ∀ r, 0 ≤ r → r < N → r ≠ k → m 107 (o r) = 6 → ∀ w, m 116 (o r) ≤ w → w < m 116 (o r) + n 3 (o r) 19 → n' 99 (n 5 0 5) (6 * w + 3) = n 99 (n 5 0 5) (6 * w + 3) ∧ n' 99 (n 5 0 5) (6 * w + 4) = n 99 (n 5 0 5) (6 * w + 4) := fun r x y z h6 w p1 p2 => by
    have hMk := hC.2.2.2.2.1 k (by omega) hkN
    by_cases z0 : m 107 (o k) = 0
    · exact ⟨h9 _ (by omega), h9 _ (by omega)⟩
    · by_cases z6 : m 107 (o k) = 6
      · have hx := (hMk.tx z6).2.2.1
        rcases Int.lt_or_gt_of_ne z with l | l
        · have := hC.2.2.2.2.2.1 r k x l hkN h6 z6
          exact ⟨h9 _ (by omega), h9 _ (by omega)⟩
        · have := hC.2.2.2.2.2.1 k r (by omega) l y z6 h6
          exact ⟨h9 _ (by omega), h9 _ (by omega)⟩
      · have := hMk.s19 z0 z6
        exact ⟨h9 _ (by omega), h9 _ (by omega)⟩
  refine ⟨⟨hC.mv g1 g2 g4 (fun f hf' => hf f (by simp only [List.mem_cons, List.not_mem_nil, or_false, not_or] at hf' ⊢; omega)), hB.cg (g1 4 (by decide) (by decide)) (by rw [e5]; exact ⟨rfl, rfl⟩) (g1 90 (by decide) (by decide)) (g1 91 (by decide) (by decide)) (g1 92 (by decide) (by decide)) (g1 93 (by decide) (by decide)), ?_, fun a x y => by rw [g2 a 18 (by decide) (by decide)]; exact h18 a x y⟩, ⟨by rw [hf 125 (by decide), hf 124 (by decide)]; exact c1, by rw [e5, hf 117 (by decide)]; exact c2, c3.cg (by rw [e5]) e19 e107 e116⟩, fun r x y y' z => ?_, fun r x y y' z w p1 p2 => ?_, fun r h x x1 x2 x3 x4 x5 x6 => ?_, fun r x x' y z => ?_⟩
  · unfold WLc at *
    rw [g1 92 (by decide) (by decide), g1 93 (by decide) (by decide), e5]; exact hW
  · rw [e107] at z
    by_cases rk : r = k
    · rw [rk] at z ⊢; exact hb z
    · have hne := ne r x y' rk
      have g := a1 r x (by omega) y' z
      unfold PLb at *
      rw [h3 _ hne, (hy _ hne).1, (hy _ hne).2]; exact g
  · rw [e107] at z
    rw [e116] at p1 p2
    rw [e19] at p2
    rw [e109]
    by_cases rk : r = k
    · rw [rk] at z p1 p2 ⊢; exact hw z w p1 p2
    · have g := a2 r x (by omega) y' z w p1 p2
      have hr1 : 1 ≤ r := by
        by_cases r0 : r = 0
        · exfalso
          rcases hC.2.2.2.2.1 0 (Int.le_refl _) (by omega) with ⟨u, _⟩ | ⟨_, u⟩
          · rw [r0] at z; omega
          · have hp := hC.2.2.1 1 (by omega) (by omega)
            have hp0 := hG.pB (k := 1) (by omega) (by omega)
            have hq : p 1 = 0 := by omega
            rw [hq] at hp
            rw [r0] at z
            rcases u with u | u | u | u | u
            · have := u.1; omega
            · have := u.1; omega
            · omega
            · omega
            · exact hp.1 u.2.2.1
        · omega
      obtain ⟨h, b1, b2, b3, b4⟩ := hC.hol hr1 y' (by omega)
      have hne := ne h b1.1 (by omega) (by omega)
      have hwd := wd r x y' rk z w p1 p2
      unfold PLw at *
      rw [e5, hwd.1, hwd.2, hf 121 (by decide), hf 122 (by decide), g2 _ 8 (by decide) (by decide)]
      rw [b2.1] at g ⊢
      rw [(hy _ hne).1, (hy _ hne).2]; exact g
  · rw [e109] at x5
    rw [e107] at x6
    have hne := ne r (by omega) x4 (by omega)
    obtain ⟨q1, q2⟩ := a3 r h (by omega) x1 x2 x3 x4 x5 x6
    rw [g2 _ 8 (by decide) (by decide)]
    refine ⟨fun z => ?_, fun z w p1 p2 => ?_⟩
    · rw [e107] at z
      have g := q1 z
      unfold PSb at *
      rw [h3 _ hne, (hy _ hne).1, (hy _ hne).2]; exact g
    · rw [e107] at z
      rw [e116] at p1 p2
      rw [e19] at p2
      have g := q2 z w p1 p2
      have hwd := wd r (by omega) x4 (by omega) z w p1 p2
      unfold DNw at *
      rw [e5, hwd.1, hwd.2, hf 121 (by decide), hf 122 (by decide)]; exact g
  · rw [h3 _ (ne r x' y (by omega))] at z ⊢
    exact a4 r (by omega) x' y z
theorem mv_step (hS : S3 A B N o e p k n m) (k0 : 1 ≤ k) (hkN : k < N) : ∃ n' m', N_Layout_moveToHolder (o k) n = some n' ∧ nb_Y_lay_355 k m = some (.inl (k + 1, m')) ∧ S3 A B N o e p (k + 1) n' m' ∧ F3n n n' ∧ FY [110, 111] m m' := by
  have hS0 := hS
  obtain ⟨⟨hC, hB, hW, h18⟩, ⟨c1, c2, c3⟩, a1, a2, a3, a4⟩ := hS
  have hG := hC.1
  have hv := hG.oB (k := k) (by omega) hkN
  have hMk := hC.2.2.2.2.1 k (by omega) hkN
  have hk120 : k < 120 := by have := hG.N1; omega
  have hyH : ∀ m', (∀ _ : Unit, (if m 107 (o k) = 1 ∨ m 107 (o k) = 2 ∨ m 107 (o k) = 4 then nk_Y_lay_388 k (o k) m else some (.inl (k + 1, m))) = some (.inl (k + 1, m'))) → nb_Y_lay_355 k m = some (.inl (k + 1, m')) := fun m' hm' => by
    rw [← hm' ()]
    unfold nb_Y_lay_355
    rw [c1.1, if_pos hkN, ix_e _ (by omega), c1.2 k (by omega) hkN, y_isBx hv]
    simp only [Option.bind_some]
    by_cases z : m 107 (o k) = 1 ∨ m 107 (o k) = 2
    · rw [if_pos z, if_neg (by decide), if_pos (by omega)]
    · rw [if_neg z, if_pos rfl, ix_e _ hv]
      by_cases z4 : m 107 (o k) = 4
      · rw [if_pos z4, if_pos (by omega)]
      · rw [if_neg z4, if_neg (by omega), ck_e _ (by omega)]
  by_cases z0 : m 107 (o k) = 0
  · have hn0 : n 3 (o k) 0 = 0 := by
      rcases hMk with ⟨_, w⟩ | ⟨_, g | g | g | g | g⟩
      · exact w
      · have := g.1; omega
      · have := g.1; omega
      · omega
      · omega
      · omega
    refine ⟨n, m, ?_, hyH m (fun _ => by rw [if_neg (by omega)]), hS0.next k0 hkN F3n.refl (fun _ _ => rfl) (fun _ _ => rfl) (FY.refl _ _) (fun _ _ => ⟨rfl, rfl⟩) (fun z => by omega) (fun z => by omega), F3n.refl, FY.refl _ _⟩
    unfold N_Layout_moveToHolder
    rw [if_pos hn0]
  · obtain ⟨h, b1, b2, b3, b4⟩ := hC.hol k0 hkN z0
    have hq := hG.oB (k := h) b1.1 (by omega)
    have hne : o h ≠ o k := fun w => by have := hG.inj (j := h) (k := k) b1.1 (by omega) (by omega) hkN w; omega
    obtain ⟨p1, p2, p3⟩ := a1 h b1.1 b1.2.1 (by omega) (by omega)
    obtain ⟨q1, q2⟩ := a3 k h (Int.le_refl _) b1.1 b1.2.1 b1.2.2 hkN b2.1 z0
    have hS18 := h18 _ hv.1 hv.2
    have h19 : 0 ≤ n 3 (o k) 19 ∧ n 3 (o k) 19 ≤ 200 := by
      by_cases z6 : m 107 (o k) = 6
      · have := (hMk.tx z6).2.2.1; omega
      · have := hMk.s19 z0 z6; omega
    have hL : ∀ i, n 3 (o k) 18 ≤ i → i < n 3 (o k) 18 + n 3 (o k) 19 → i < n 5 0 6 ∧ (-2000000000 ≤ n 99 (n 5 0 5) (6 * i + 3) + n 3 (o h) 2 ∧ n 99 (n 5 0 5) (6 * i + 3) + n 3 (o h) 2 ≤ 2000000000) ∧ (-2000000000 ≤ n 99 (n 5 0 5) (6 * i + 4) + n 3 (o h) 3 ∧ n 99 (n 5 0 5) (6 * i + 4) + n 3 (o h) 3 ≤ 2000000000) := fun i x y => by
      by_cases z6 : m 107 (o k) = 6
      · have hx := (hMk.tx z6).2.2.1
        have g := q2 z6 i (by omega) (by omega)
        unfold DNw at g
        omega
      · have := hMk.s19 z0 z6; omega
    by_cases zb : m 107 (o k) = 1 ∨ m 107 (o k) = 2 ∨ m 107 (o k) = 4
    · obtain ⟨s1, s2, s3⟩ := q1 zb
      obtain ⟨n', r1, r2, r3, r4, r5, r6, r7, r8⟩ := c_mv hW (hMk.k0 z0) b2.2 hq hne (by omega) (by omega) hS18 h19 hL
      have hF : F3n n n' := ⟨r2, fun a s x y => by
        by_cases w : a = o k
        · rw [w]; exact r4 s x y
        · rw [r3 a w], r6, fun j x y => r7 j (.inl ⟨x, y⟩)⟩
      obtain ⟨E, hE⟩ : ∃ E, E = n 3 (o h) 8 := ⟨_, rfl⟩
      rw [← hE] at s1 b4
      obtain ⟨m1, hm1⟩ : ∃ m1, m1 = yw m 110 (o k) (m 110 (o k) + (m 110 (o h) + E)) := ⟨_, rfl⟩
      have e1 : ∀ f, f ≠ 110 → m1 f = m f := fun f hf => by rw [hm1]; exact yw_nF hf
      obtain ⟨m2, hm2⟩ : ∃ m2, m2 = yw m1 111 (o k) (m 111 (o k) + (m 111 (o h) + E)) := ⟨_, rfl⟩
      have hY : FY [110, 111] m m2 := fun f hf => by
        simp only [List.mem_cons, List.not_mem_nil, or_false, not_or] at hf
        rw [hm2, yw_nF hf.2, e1 f hf.1]
      have x1 : m2 110 (o k) = m 110 (o k) + (m 110 (o h) + E) := by rw [hm2, yw_nF (by decide), hm1, yw_eq]
      have x2 : m2 111 (o k) = m 111 (o k) + (m 111 (o h) + E) := by rw [hm2, yw_eq]
      refine ⟨n', m2, r1, hyH m2 (fun _ => ?_), hS0.next k0 hkN hF r3 (fun j hj => r7 j (by omega)) hY (fun a ha => ?_) (fun _ => ?_) (fun z => by omega), hF, hY⟩
      · rw [if_pos zb]
        unfold nk_Y_lay_388 st
        dsimp only
        rw [b2.1, ix_e _ hv, ix_e _ hv, ix_e _ hq, ix_e _ hv, y_edg hq b4.1 b4.2]
        simp only [Option.bind_some]
        rw [← hm1, ck_f _ (by omega), ck_f _ (by omega), ix_e _ hv, ix_e _ hv, ix_e _ hv, e1 109 (by decide), b2.1, ix_e _ hq, ix_e _ hv, y_edg hq (by rw [e1 105 (by decide)]; exact b4.1) b4.2]
        simp only [Option.bind_some]
        rw [e1 111 (by decide), ← hm2, ck_f _ (by omega), ck_f _ (by omega), ix_e _ hv, ck_e _ (by omega)]
      · rw [hm2, yw_nF (by decide), yw_ni ha, hm1, yw_ni ha, yw_nF (by decide)]; exact ⟨rfl, rfl⟩
      · unfold PLb
        rw [x1, x2, r5.1, r5.2]
        omega
    · have hz := a4 k (Int.le_refl _) (by omega) hkN (hMk.k3 z0 zb)
      obtain ⟨n', r1, r2, r3, r4, r5, r6, r7, r8⟩ := c_mv hW (hMk.k0 z0) b2.2 hq hne (by omega) (by omega) hS18 h19 hL
      have hF : F3n n n' := ⟨r2, fun a s x y => by
        by_cases w : a = o k
        · rw [w]; exact r4 s x y
        · rw [r3 a w], r6, fun j x y => r7 j (.inl ⟨x, y⟩)⟩
      refine ⟨n', m, r1, hyH m (fun _ => by rw [if_neg zb]), hS0.next k0 hkN hF r3 (fun j hj => r7 j (by omega)) (FY.refl _ _) (fun _ _ => ⟨rfl, rfl⟩) (fun z => absurd z zb) (fun z6 w x y => ?_), hF, FY.refl _ _⟩
      have hx := (hMk.tx z6).2.2.1
      have g := q2 z6 w x y
      have g8 := r8 w (by omega) (by omega)
      rw [b2.1]
      unfold PLw
      unfold DNw at g
      rw [r2 5 (by decide) (by decide), g8.1, g8.2, r3 _ hne]
      omega
theorem mv_both : ∀ (z : Nat) (k : Int) (n : NS) (m : YS), (N - k).toNat ≤ z → 1 ≤ k → k ≤ N → S3 A B N o e p k n m → ∃ n' m', NL_Layout_refresh_143 k n = some n' ∧ NL_Y_lay_355 k m = some m' ∧ S3 A B N o e p N n' m' ∧ F3n n n' ∧ FY [110, 111] m m' := by
  have stop : ∀ (k : Int) (n : NS) (m : YS), ¬ k < N → S3 A B N o e p k n m → NL_Layout_refresh_143 k n = some n ∧ NL_Y_lay_355 k m = some m := fun k n m hk hS => by
    constructor
    · unfold NL_Layout_refresh_143
      refine it_inr ?_
      show nb_Layout_refresh_143 k n = _
      unfold nb_Layout_refresh_143
      rw [hS.1.1.2.1.1, if_neg hk]
    · unfold NL_Y_lay_355
      refine it_inr ?_
      show nb_Y_lay_355 k m = _
      unfold nb_Y_lay_355
      rw [hS.2.1.1.1, if_neg hk]
  intro z
  induction z with
  | zero =>
    intro k n m hz k0 hk hS
    have e : k = N := by omega
    obtain ⟨t1, t2⟩ := stop k n m (by omega) hS
    exact ⟨n, m, t1, t2, by rw [e] at hS; exact hS, F3n.refl, FY.refl _ _⟩
  | succ z ih =>
    intro k n m hz k0 hk hS
    by_cases hlt : k < N
    · obtain ⟨n1, m1, s1, s2, s3, s4, s5⟩ := mv_step hS k0 hlt
      obtain ⟨n', m', r1, r2, r3, r4, r5⟩ := ih (k + 1) n1 m1 (by omega) (by omega) (by omega) s3
      refine ⟨n', m', ?_, ?_, r3, s4.trans r4, s5.trans r5⟩
      · rw [← r1]
        unfold NL_Layout_refresh_143
        refine it_inl ?_
        show nb_Layout_refresh_143 k n = _
        unfold nb_Layout_refresh_143
        have hG := hS.1.1.1
        rw [hS.1.1.2.1.1, if_pos hlt, ix_e _ (by have := hG.N1; omega), (hS.1.1.2.1.2 k (by omega) hlt).1, ix_e _ (hG.oB (by omega) hlt), s1]
        simp only [Option.bind_some]
        rw [ck_e _ (by have := hG.N1; omega)]
      · rw [← r2]
        unfold NL_Y_lay_355
        exact it_inl (f := fun s : Int × YS => nb_Y_lay_355 s.1 s.2) (s := (k, m)) s2
    · have e : k = N := by omega
      obtain ⟨t1, t2⟩ := stop k n m (by omega) hS
      exact ⟨n, m, t1, t2, by rw [e] at hS; exact hS, F3n.refl, FY.refl _ _⟩
end YD
