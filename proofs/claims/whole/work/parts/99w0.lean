/-! A LINE is closed, in both: all of it -/
/-- what closing leaves as it was, in the class; v is the block -/
def FVn (v : Int) (n n' : NS) : Prop := (∀ K, K ≠ 3 → K ≠ 5 → K ≠ 99 → n' K = n K) ∧ (∀ a s, s ≠ 2 → s ≠ 3 → n' 3 a s = n 3 a s) ∧ (∀ a, 0 ≤ a → (n 3 a 1 ≠ v ∨ n 3 a 0 = 3) → n' 3 a = n 3 a) ∧ (∀ s, s < 10 → n' 5 0 s = n 5 0 s) ∧ (∀ q, q ≠ n 5 0 5 → n' 99 q = n 99 q) ∧ (∀ j, j % 6 ≠ 3 → j % 6 ≠ 4 → n' 99 (n 5 0 5) j = n 99 (n 5 0 5) j)
  ∧ (∀ i, 0 ≤ i → n 3 (n 99 (n 5 0 5) (6 * i)) 1 ≠ v → n' 99 (n 5 0 5) (6 * i + 3) = n 99 (n 5 0 5) (6 * i + 3) ∧ n' 99 (n 5 0 5) (6 * i + 4) = n 99 (n 5 0 5) (6 * i + 4))
def FVy (v : Int) (m m' : YS) : Prop := FY [110, 111, 121, 122, 127, 128, 129, 130, 131, 132, 134, 135, 136, 137, 138, 139, 140, 141, 142, 143, 144] m m' ∧ (∀ a, 0 ≤ a → m 109 a ≠ v → m' 110 a = m 110 a ∧ m' 111 a = m 111 a) ∧ (∀ w, 0 ≤ w → m 109 (m 118 w) ≠ v → m' 121 w = m 121 w ∧ m' 122 w = m 122 w)
def CLO (v E wd F : Int) (n : NS) (m : YS) (n' : NS) (m' : YS) : Prop := LSx n' m' v E wd (F + m 143 0) ∧ m' 131 0 = 0 ∧ pot m' (F + m 143 0) ≤ pot m F ∧ m 127 0 ≤ m' 127 0 ∧ FVn v n n' ∧ FVy v m m' ∧ (∀ a, 0 ≤ a → SNb n m E a → DNb n' m' E a) ∧ (∀ w, 0 ≤ w → SNw n m E w → DNw n' m' E w)
section W0
variable {n n' : NS} {m m' : YS} {a b c y q s E F v wd u w t sh Y H I : Int}
theorem ITk.cg (h : ITk n m v a) (h3 : ∀ a s, s ≠ 2 → s ≠ 3 → n' 3 a s = n 3 a s) (h6 : n' 5 0 6 = n 5 0 6) (h5 : n' 5 0 5 = n 5 0 5) (h99 : ∀ i, n' 99 (n 5 0 5) (6 * i) = n 99 (n 5 0 5) (6 * i)) (hm : ∀ f, f = 113 ∨ f = 109 ∨ f = 118 ∨ f = 105 ∨ f = 49 → m' f = m f) : ITk n' m' v a := by
  unfold ITk at *
  rw [h3 _ 5 (by decide) (by decide), h3 _ 1 (by decide) (by decide), h3 _ 0 (by decide) (by decide), hm 113 (by omega), hm 109 (by omega), h6, h5, h99, hm 118 (by omega), h3 _ 11 (by decide) (by decide), h3 _ 1 (by decide) (by decide), hm 105 (by omega), hm 49 (by omega)]
  exact h
theorem iH_cg (hm : ∀ f, f = 113 ∨ f = 118 ∨ f = 105 ∨ f = 49 → m' f = m f) : iH m' a = iH m a := by
  unfold iH
  rw [hm 113 (by omega), hm 105 (by omega), hm 49 (by omega), hm 118 (by omega)]
theorem LFl.wO (h : LFl n m v E wd F) : LFl (wO n a b c) m v E wd F := by
  obtain ⟨h1, h2, h3, h4, h5⟩ := h
  refine ⟨h1.wO, ?_, h3.wO, ?_, ?_⟩
  · rw [wO_s (by decide) (by decide) (by decide)]; exact h2
  · rw [wO_s (by decide) (by decide) (by decide)]; exact h4
  · rw [wO_s (by decide) (by decide) (by decide)]; exact h5
theorem LFl.cy (h : LFl n m v E wd F) (hm : ∀ f, f = 127 ∨ f = 133 ∨ f = 136 ∨ f = 137 ∨ f = 138 ∨ f = 139 ∨ f = 140 ∨ f = 141 ∨ f = 145 → m' f = m f) : LFl n m' v E wd F := by
  obtain ⟨h1, h2, h3, h4, h5⟩ := h
  have hmx := (flR_cg (m := m) (m' := m') (y := 0) (a := 0) (by rw [hm 145 (by omega)]) F.toNat (fun f x y => by rw [hm 137 (by omega), hm 138 (by omega), hm 139 (by omega), hm 140 (by omega), hm 141 (by omega)]; exact ⟨rfl, rfl, rfl, rfl, rfl⟩)).2.2.2.1
  refine ⟨h1.cg rfl (fun _ _ _ _ => rfl) (hm 145 (by omega)) (hm 133 (by omega)), by rw [hm 136 (by omega)]; exact h2, h3.cg (fun _ _ _ => rfl) (fun _ _ _ => rfl) (fun f _ _ => by rw [hm 137 (by omega), hm 138 (by omega), hm 139 (by omega), hm 140 (by omega), hm 141 (by omega)]; exact ⟨rfl, rfl, rfl, rfl, rfl⟩), by rw [hmx]; exact h4, by rw [hm 127 (by omega)]; exact h5⟩
theorem flR_m (hm : ∀ f, f = 137 ∨ f = 138 ∨ f = 139 ∨ f = 140 ∨ f = 141 ∨ f = 145 → m' f = m f) : leR m' y F.toNat = leR m y F.toNat ∧ riR m' y F.toNat = riR m y F.toNat ∧ neR m' y F.toNat = neR m y F.toNat ∧ mxE m' F.toNat = mxE m F.toNat := by
  have h := flR_cg (m := m) (m' := m') (y := y) (a := 0) (by rw [hm 145 (by omega)]) F.toNat (fun f _ _ => by rw [hm 137 (by omega), hm 138 (by omega), hm 139 (by omega), hm 140 (by omega), hm 141 (by omega)]; exact ⟨rfl, rfl, rfl, rfl, rfl⟩)
  exact ⟨h.1, h.2.1, h.2.2.1, h.2.2.2.1⟩
theorem close_core (hS : LSx n m v E wd F) (hW : WLc n) (hI : 0 < m 131 0) (hp : pot m F ≤ 900000) (hsh : 0 ≤ sh ∧ sh ≤ 4000000) : ∃ n' m', nk_Layout_closeLine_54 sh n = some n' ∧ nk_Y_endLine_40 sh m = some m' ∧ CLO v E wd F n m n' m' := by
  unfold CLO
  obtain ⟨hL, hIt, hWt, hEd⟩ := hS
  have hIt0 := hIt
  obtain ⟨l1, ⟨l2, l3, l4⟩, l5, l6, l7, l8⟩ := hL
  obtain ⟨⟨i1, i2, i3, i4⟩, i5, i6, i7⟩ := hIt
  obtain ⟨⟨t1, t2, t3⟩, t4, t5⟩ := hWt
  have hE := l1.2.2.2.1
  have hHb := mxH_b (n := n) (m := m) (v := v) (m 131 0).toNat (fun i x y => (i5 i x (by omega)).2.1)
  rw [← i7] at hHb
  have hpos : ∀ i, 0 ≤ i → i < m 143 0 → 0 ≤ wC m i := fun i x y => (t4 i x y).2.wC.1
  have hge := zsm_ge0 hpos t2
  have hmE := (mxE_ge (m := m) F.toNat).1
  unfold pot at hp
  obtain ⟨n7, hn7⟩ : ∃ n7, n7 = nw n 5 0 11 (m 127 0 + m 132 0 + E) := ⟨_, rfl⟩
  have n7K : ∀ K, K ≠ 5 → n7 K = n K := fun K x => by rw [hn7, nw_nK x]
  have n75 : ∀ s, s ≠ 11 → n7 5 0 s = n 5 0 s := fun s x => by rw [hn7, nw_ns x]
  have W7 : WLc n7 := by
    unfold WLc at *
    rw [n75 5 (by decide), n75 9 (by decide), n75 6 (by decide), n7K 92 (by decide), n7K 93 (by decide)]; exact hW
  have I7 : LIt n7 m v E := by
    refine ⟨by rw [n75 10 (by decide), n75 9 (by decide), n7K 93 (by decide)]; exact ⟨i1, i2, i3, i4⟩, fun i x y => ?_, i6, i7⟩
    obtain ⟨j1, j2, j3⟩ := i5 i x y
    refine ⟨by rw [n75 9 (by decide), n7K 99 (by decide)]; exact j1, j2.cg (fun a s _ _ => by rw [n7K 3 (by decide)]) (n75 6 (by decide)) (n75 5 (by decide)) (fun i => by rw [n7K 99 (by decide)]) (fun _ _ => rfl), ?_⟩
    unfold ixX at *
    rw [n75 5 (by decide), n7K 99 (by decide), n7K 3 (by decide)]; exact j3
  obtain ⟨n10, m1, a1, a2, a3, a4, a5, a6, a7, a8, a9, a10⟩ := itm_loop (sh := sh) W7 I7 (by rw [hn7, nw_eq]) ⟨l8, by omega⟩ hsh hE _ 0 n7 m (Nat.le_refl _) (Int.le_refl _) i2 (fun _ _ _ => rfl) (fun _ _ _ _ => rfl) (fun _ _ => rfl) (fun _ _ _ => rfl) (FY.refl _ _) (fun i x y => (I7.2.1 i x y).2.2.1)
  rw [n75 5 (by decide)] at a5 a6 a10
  obtain ⟨n14, hn14⟩ : ∃ n14, n14 = nw n10 5 0 10 0 := ⟨_, rfl⟩
  have e14K : ∀ K, K ≠ 3 → K ≠ 5 → K ≠ 99 → n14 K = n K := fun K x y z => by rw [hn14, nw_nK y, a3 K x z, n7K K y]
  have e145 : ∀ s, s ≠ 10 → s ≠ 11 → n14 5 0 s = n 5 0 s := fun s x y => by rw [hn14, nw_ns x, a3 5 (by decide) (by decide), n75 s y]
  have e143 : ∀ a s, s ≠ 2 → s ≠ 3 → n14 3 a s = n 3 a s := fun a s x y => by rw [hn14, nw_nK (by decide), a4 a s x y, n7K 3 (by decide)]
  have e14u : ∀ a, (∀ i, 0 ≤ i → i < m 131 0 → m 134 i ≠ -1 - a) → 0 ≤ a → n14 3 a = n 3 a ∧ m1 110 a = m 110 a ∧ m1 111 a = m 111 a := fun a ha a0 => by
    have := a9 a ha a0
    rw [hn14, nw_nK (show (3 : Nat) ≠ 5 by decide), this.1, n7K 3 (by decide)]; exact ⟨rfl, this.2⟩
  obtain ⟨m20, hm20⟩ : ∃ m20, m20 = yw (yw (yw (yw m1 127 0 (m 127 0 + m 132 0)) 131 0 0) 132 0 0) 144 0 0 := ⟨_, rfl⟩
  have e20 : ∀ f, f ≠ 127 → f ≠ 131 → f ≠ 132 → f ≠ 144 → m20 f = m1 f := fun f x y z w => by rw [hm20, yw_nF w, yw_nF z, yw_nF y, yw_nF x]
  have e20m : ∀ f, f ∉ [110, 111, 121, 122, 127, 131, 132, 144] → m20 f = m f := fun f hf => by
    simp only [List.mem_cons, List.not_mem_nil, or_false, not_or] at hf
    rw [e20 f (by omega) (by omega) (by omega) (by omega)]
    exact a7 f (by simp only [List.mem_cons, List.not_mem_nil, or_false, not_or]; omega)
  have e127 : m20 127 0 = m 127 0 + m 132 0 := by rw [hm20, yw_nF (by decide), yw_nF (by decide), yw_nF (by decide), yw_eq]
  have q20 := flR_m (m := m) (m' := m20) (y := 0) (F := F) (fun f hf => e20m f (by simp only [List.mem_cons, List.not_mem_nil, or_false, not_or]; omega))
  have tb20 : TBs m m20 F := fun f _ _ => by rw [e20m 137 (by decide), e20m 138 (by decide), e20m 139 (by decide), e20m 140 (by decide), e20m 141 (by decide)]; exact ⟨rfl, rfl, rfl, rfl, rfl⟩
  have L20 : LFl n14 m20 v E wd F := by
    refine ⟨l1.cg (e145 8 (by decide) (by decide)) e143 (e20m 145 (by decide)) (e20m 133 (by decide)), ⟨by rw [e145 17 (by decide) (by decide)]; exact l2, by rw [e20m 136 (by decide)]; exact l3, l4⟩, l5.cg (fun f _ _ => by rw [e14K 43 (by decide) (by decide) (by decide)]) (fun f x y => ?_) tb20, by rw [e145 19 (by decide) (by decide), q20.2.2.2]; exact l6, by rw [hn14, nw_ns (by decide), a3 5 (by decide) (by decide), hn7, nw_eq, e127], by omega⟩
    have ft := l5 f x y
    exact (e14u (n 43 0 f) (fun i x' y' h => by
      rcases (i5 i x' y').2.1 with g | g
      · have h2 : -1 - m 134 i = n 43 0 f := by omega
        have g7 := g.2.2.2.2.2.2
        rw [h2] at g7
        have := ft.2.2.2.2.2.2
        omega
      · have := ft.1; omega) ft.1.1).1
  have ewc : ∀ i, wC m20 i = wC m i := fun i => by unfold wC; rw [e20m 142 (by decide), e20m 113 (by decide), e20m 105 (by decide)]
  have ezs : zsm (wC m20) 0 (m 143 0) = zsm (wC m) 0 (m 143 0) := zsm_cg (fun j _ _ => ewc j)
  obtain ⟨n17, m23, s1, s2, s3, s4, s5, s6, s7⟩ := wait_loop (Wt := m 143 0) (v := v) (E := E) (wd := wd) _ 0 F n14 m20 (Nat.le_refl _) ⟨Int.le_refl _, t2⟩ L20 ⟨by rw [e145 18 (by decide) (by decide), t1]; omega, by rw [e20m 143 (by decide)], by omega, by omega⟩ (fun i x y => by
    have h := t4 i x y
    rw [e14K 43 (by decide) (by decide) (by decide), e20m 142 (by decide), show F + (i - 0) = F + i by omega]
    exact ⟨h.1, h.2.cg e143 (fun f hf => e20m f (by simp only [List.mem_cons, List.not_mem_nil, or_false, not_or]; omega))⟩) (fun i j x y w => by
    rw [e14K 43 (by decide) (by decide) (by decide)]; exact t5 i j x y (by omega)) (by rw [e127, q20.2.2.2, ezs]; omega)
  rw [show F + (m 143 0 - 0) = F + m 143 0 by omega] at s3 s7
  rw [e20m 142 (by decide)] at s4 s5 s6
  rw [e127, q20.2.2.2, ezs] at s7
  generalize hF' : F + m 143 0 = F' at *
  obtain ⟨m27, hm27⟩ : ∃ m27, m27 = yw m23 143 0 0 := ⟨_, rfl⟩
  have e27 : ∀ f, f ≠ 143 → m27 f = m23 f := fun f x => by rw [hm27, yw_nF x]
  have q27 := fun y => flR_m (m := m23) (m' := m27) (y := y) (F := F') (fun f hf => e27 f (by omega))
  have hop := c_openAt (y := m23 127 0) s3.1 s3.2.1.1 ⟨s3.2.1.2.2, by omega⟩ s3.2.2.1
  rw [← s3.2.2.2.2.1] at hop
  obtain ⟨nE, hnE⟩ : ∃ nE, nE = wO n17 (leR m23 (m23 127 0) F'.toNat + E) (riR m23 (m23 127 0) F'.toNat + E) (nX E (neR m23 (m23 127 0) F'.toNat)) := ⟨_, rfl⟩
  rw [← hnE] at hop
  have eEK : ∀ K, K ≠ 5 → nE K = n17 K := fun K x => by rw [hnE, wO_K x]
  have eE5 : ∀ s, s ≠ 12 → s ≠ 13 → s ≠ 14 → nE 5 0 s = n17 5 0 s := fun s x y z => by rw [hnE, wO_s x y z]
  have f23 : ∀ f, f ∉ [110, 111, 121, 122, 127, 128, 129, 131, 132, 136, 137, 138, 139, 140, 141, 144] → m23 f = m f := fun f hf => by
    simp only [List.mem_cons, List.not_mem_nil, or_false, not_or] at hf
    rw [s5.1 f (by simp only [List.mem_cons, List.not_mem_nil, or_false, not_or]; omega)]
    exact e20m f (by simp only [List.mem_cons, List.not_mem_nil, or_false, not_or]; omega)
  have m127 : m23 127 0 = m 127 0 + m 132 0 := by rw [s5.1 127 (by decide), e127]
  have m131 : m23 131 0 = 0 := by rw [s5.1 131 (by decide), hm20, yw_nF (by decide), yw_nF (by decide), yw_eq]
  have m132 : m23 132 0 = 0 := by rw [s5.1 132 (by decide), hm20, yw_nF (by decide), yw_eq]
  have m144 : m23 144 0 = 0 := by rw [s5.1 144 (by decide), hm20, yw_eq]
  have w99 : n17 99 = n10 99 := by rw [s4.1 99 (by decide) (by decide), hn14, nw_nK (by decide)]
  have E99 : nE 99 = n10 99 := by rw [eEK 99 (by decide), w99]
  have e505 : nE 5 0 5 = n 5 0 5 := by rw [eE5 5 (by decide) (by decide) (by decide), s4.2.2.2 5 (by decide) (by decide) (by decide) (by decide) (by decide), e145 5 (by decide) (by decide)]
  have e121 : ∀ f, f = 121 ∨ f = 122 → m27 f = m1 f := fun f hf => by
    rw [e27 f (by omega), s5.1 f (by simp only [List.mem_cons, List.not_mem_nil, or_false, not_or]; omega)]
    exact e20 f (by omega) (by omega) (by omega) (by omega)
  have mwait : ∀ a, ¬ (∃ i, 0 ≤ i ∧ i < m 143 0 ∧ m 142 i = a) → nE 3 a = n14 3 a ∧ m27 110 a = m1 110 a ∧ m27 111 a = m1 111 a := fun a ha => by
    have q := s5.2 a ha
    rw [eEK 3 (by decide), s4.2.2.1 a ha, e27 110 (by decide), e27 111 (by decide), q.1, q.2, e20 110 (by decide) (by decide) (by decide) (by decide), e20 111 (by decide) (by decide) (by decide) (by decide)]
    exact ⟨rfl, rfl, rfl⟩
  refine ⟨nE, m27, ?_, ?_, ⟨?_, ?_, ?_, ?_⟩, ?_, ?_, ?_, ⟨?_, ?_, ?_, ?_, ?_, ?_, ?_⟩, ⟨?_, ?_, ?_⟩, ?_, ?_⟩
  · -- the class does so
    unfold nk_Layout_closeLine_54 st
    dsimp only
    rw [c_high hW hIt0]
    simp only [Option.bind_some]
    rw [l7, show m 127 0 + E + m 132 0 = m 127 0 + m 132 0 + E by omega, ck_e _ (by omega), ← hn7, a1]
    simp only [Option.bind_some]
    rw [← hn14, s1]
    simp only [Option.bind_some]
    rw [hop]
    simp only [Option.bind_some]
  · unfold nk_Y_endLine_40 st
    dsimp only
    rw [a2]
    simp only [Option.bind_some]
    rw [a7 127 (by decide), a7 132 (by decide), ck_e _ (by omega), ← hm20, s2]
    simp only [Option.bind_some]
    rw [hm27]
  · rw [hnE]
    exact LFl.cy s3.wO (fun f hf => e27 f (by omega))
  · refine ⟨⟨?_, ?_, ?_, ?_⟩, fun i x y => ?_, fun i j x y w => ?_, ?_⟩
    · rw [eE5 10 (by decide) (by decide) (by decide), s4.2.2.2 10 (by decide) (by decide) (by decide) (by decide) (by decide), hn14, nw_eq, e27 131 (by decide), m131]
    · rw [e27 131 (by decide), m131]; omega
    · rw [e27 131 (by decide), m131]; omega
    · rw [e27 131 (by decide), m131, eE5 9 (by decide) (by decide) (by decide), s4.2.2.2 9 (by decide) (by decide) (by decide) (by decide) (by decide), e145 9 (by decide) (by decide), eEK 93 (by decide), s4.1 93 (by decide) (by decide), e14K 93 (by decide) (by decide) (by decide)]
      have := hW.2.2.2.1; omega
    · rw [e27 131 (by decide), m131] at y; omega
    · rw [e27 131 (by decide), m131] at w; omega
    · rw [e27 131 (by decide), m131, e27 132 (by decide), m132]; rfl
  · have m143 : m27 143 0 = 0 := by rw [hm27, yw_eq]
    refine ⟨⟨?_, ?_, ?_⟩, fun i x y => ?_, fun i j x y w => ?_⟩
    · rw [m143, eE5 18 (by decide) (by decide) (by decide), s4.2.2.2 18 (by decide) (by decide) (by decide) (by decide) (by decide), e145 18 (by decide) (by decide), t1]; omega
    · omega
    · omega
    · omega
    · rw [eEK 43 (by decide), s4.1 43 (by decide) (by decide), e14K 43 (by decide) (by decide) (by decide)]
      exact t5 i j x y (by omega)
  · refine ⟨⟨?_, ?_⟩, fun z => ?_, fun _ => ⟨?_, ?_, ?_, ?_⟩⟩
    · rw [e27 144 (by decide), m144]; exact .inl rfl
    · rw [eE5 15 (by decide) (by decide) (by decide), s4.2.2.2 15 (by decide) (by decide) (by decide) (by decide) (by decide), e145 15 (by decide) (by decide)]; exact hEd.1.2
    · rw [e27 131 (by decide), m131] at z; omega
    · rw [hm27, yw_eq]
    · rw [(q27 _).1, e27 127 (by decide), hnE, wO_a]
    · rw [(q27 _).2.1, e27 127 (by decide), hnE, wO_b]
    · rw [(q27 _).2.2.1, e27 127 (by decide), hnE, wO_c]
  · rw [e27 131 (by decide), m131]
  · unfold pot
    rw [e27 127 (by decide), (q27 0).2.2.2, e27 132 (by decide), m132, hm27, yw_eq, zsm_nil (Int.le_refl _)]
    omega
  · rw [e27 127 (by decide), m127]; omega
  · intro K x y z
    rw [eEK K y, s4.1 K x y, e14K K x y z]
  · intro a s x y
    rw [eEK 3 (by decide), s4.2.1 a s x y, e143 a s x y]
  · intro a a0 ha
    have g1 : ¬ ∃ i, 0 ≤ i ∧ i < m 143 0 ∧ m 142 i = a := fun ⟨i, x, y, h⟩ => by
      have f := (t4 i x y).2
      rw [h] at f
      rcases ha with ha | ha
      · exact ha f.2.2.2.2.2.1
      · have := f.2.2.2.2.2.2.2; omega
    rw [(mwait a g1).1]
    exact (e14u a (fun i x y h => by
      rcases (i5 i x y).2.1 with g | g
      · have h2 : -1 - m 134 i = a := by omega
        have g1 := g.2.2.2.2.1
        have g2 := g.2.2.2.2.2.2
        rw [h2] at g1 g2
        rcases ha with ha | ha
        · exact ha g1
        · omega
      · omega) a0).1
  · intro s hs
    rw [eE5 s (by omega) (by omega) (by omega), s4.2.2.2 s (by omega) (by omega) (by omega) (by omega) (by omega), e145 s (by omega) (by omega)]
  · intro q hq
    rw [E99, a5 q hq, n7K 99 (by decide)]
  · intro j x y
    rw [E99, a6 j x y, n7K 99 (by decide)]
  · intro i i0 hi
    have g := a10 i (fun k x y h => by
      rcases (i5 k x y).2.1 with g | g
      · omega
      · rw [h] at g
        apply hi
        rw [g.2.2.1]; exact g.2.2.2.2.2.2.2.1) i0
    rw [E99, g.1, g.2.1, n7K 99 (by decide)]
    exact ⟨rfl, rfl⟩
  · intro f hf
    simp only [List.mem_cons, List.not_mem_nil, or_false, not_or] at hf
    rw [e27 f (by omega)]
    exact f23 f (by simp only [List.mem_cons, List.not_mem_nil, or_false, not_or]; omega)
  · intro a a0 ha
    have g1 : ¬ ∃ i, 0 ≤ i ∧ i < m 143 0 ∧ m 142 i = a := fun ⟨i, x, y, h⟩ => by
      have := (t4 i x y).2.2.2.2.2.2.2.1
      rw [h] at this; exact ha this
    rw [(mwait a g1).2.1, (mwait a g1).2.2]
    exact (e14u a (fun i x y h => by
      rcases (i5 i x y).2.1 with g | g
      · have h2 : -1 - m 134 i = a := by omega
        have := g.2.2.2.2.2.1
        rw [h2] at this; exact ha this
      · omega) a0).2
  · intro w w0 hw
    have g := a10 w (fun k x y h => by
      rcases (i5 k x y).2.1 with g | g
      · omega
      · rw [h] at g
        exact hw g.2.2.2.2.2.2.2.2) w0
    rw [e121 121 (.inl rfl), e121 122 (.inr rfl)]
    exact g.2.2
  · -- what was seen is done
    intro a a0 ha
    by_cases g1 : ∃ i, 0 ≤ i ∧ i < m 143 0 ∧ m 142 i = a
    · obtain ⟨i, x, y, h⟩ := g1
      have := s6 i x y
      rw [h] at this
      unfold DNb at *
      rw [eEK 3 (by decide), e27 110 (by decide), e27 111 (by decide)]; exact this
    · have gm := mwait a g1
      unfold DNb
      rw [gm.1, gm.2.1, gm.2.2]
      by_cases g2 : ∃ i, 0 ≤ i ∧ i < m 131 0 ∧ m 134 i = -1 - a
      · obtain ⟨i, x, y, h⟩ := g2
        have := (a8 i x y).1 (by omega)
        rw [show -1 - m 134 i = a by omega] at this
        unfold DNb at this
        rw [hn14, nw_nK (show (3 : Nat) ≠ 5 by decide)]; exact this
      · have gu := e14u a (fun i x y h => g2 ⟨i, x, y, h⟩) a0
        rw [gu.1, gu.2.1, gu.2.2]
        rcases ha with h | h | h
        · exact h
        · exact absurd h g2
        · exact absurd h g1
  · intro w w0 hw
    unfold DNw
    rw [e505, E99, e121 121 (.inl rfl), e121 122 (.inr rfl)]
    by_cases g2 : ∃ i, 0 ≤ i ∧ i < m 131 0 ∧ m 134 i = w
    · obtain ⟨i, x, y, h⟩ := g2
      have := (a8 i x y).2 (by omega)
      rw [h] at this
      unfold DNw at this
      rw [a3 5 (by decide) (by decide), n75 5 (by decide)] at this; exact this
    · have g := a10 w (fun i x y h => g2 ⟨i, x, y, h⟩) w0
      rw [g.1, g.2.1, g.2.2.1, g.2.2.2, n7K 99 (by decide)]
      rcases hw with h | h
      · exact h
      · exact absurd h g2
theorem closeLine_both (hS : LSx n m v E wd F) (hW : WLc n) (hI : 0 < m 131 0) (hp : pot m F ≤ 900000) : ∃ n' m', N_Layout_closeLine n = some n' ∧ N_Y_endLine m = some m' ∧ CLO v E wd F n m n' m' := by
  have hB := hS.1.1
  obtain ⟨c1, c2, c3, c4, c5⟩ := hS.2.2.2.2.1 hI
  have i1 := hS.2.1.1.1
  have hE := hB.2.2.2.1
  unfold N_Layout_closeLine N_Y_endLine
  rw [i1, if_neg (by omega), c1, c2, hB.1, hB.2.2.2.2.2.2.2, show m 129 0 + E - (m 130 0 + E) = m 129 0 - m 130 0 by omega, ck_e _ (by omega), ck_e _ (by omega)]
  have hnn : ∀ (x : Option NS), nn v x = x := fun x => if_pos hB.2.1.1
  simp only [hnn]
  by_cases z0 : m 133 0 = 0
  · rw [if_pos z0, if_pos z0]
    exact close_core hS hW hI hp (by omega)
  · rw [if_neg z0, if_neg z0]
    by_cases z1 : m 133 0 = 1
    · have hcd : ∀ {α : Type} (x : Option α), cd (max 0 (m 129 0 - m 130 0)) 2 x = x := fun x => if_pos (by omega)
      rw [if_pos z1, if_pos z1, hcd, hcd]
      exact close_core hS hW hI hp (by omega)
    · rw [if_neg z1, if_neg z1]
      exact close_core hS hW hI hp (by omega)
end W0
