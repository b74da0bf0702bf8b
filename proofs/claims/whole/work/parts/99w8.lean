/-! ONE NODE comes into the lines of its block, in both: all kinds -/
section W8
variable {n n' n'' : NS} {m m' m'' : YS} {A B a b c x y q s E F F' F'' v wd u w t sh Y H I l gap at' it' k i C C' Q Q' fw wb thing : Int}
/-- a FLOAT waits -/
theorem float1 (hS : LSx n m v E wd F) (hB : BI A B n) (hW : WLc n) (hF : FLb n m v u) (hfr : ∀ f, 0 ≤ f → f < F + m 143 0 → n 43 0 f ≠ u) (hfc : F + m 143 0 ≤ 118) (hI : 0 < m 131 0) (hwb : ∀ q, 0 ≤ q → q < m 131 0 → m 134 q < wb) (h107 : m 107 u ≠ 6) :
    STQ A B v E wd u wb (cst n u) n m F (nw (nw n 43 0 (F + m 143 0) u) 5 0 18 (F + m 143 0 + 1)) (yw (yw m 142 (m 143 0) u) 143 0 (m 143 0 + 1)) F := by
  have hS0 := hS
  obtain ⟨⟨l1, l2, l3, l4, l5⟩, ⟨i1, i2, i3, i4⟩, ⟨t1, t2, t3⟩, e1, e2, e3⟩ := hS
  have hF0 := hF
  obtain ⟨q1, q2, q3, q4, q5, q6, q7, q8⟩ := hF
  have ec : cst n u = n 3 u 5 + 2 * n 3 u 6 := by unfold cst; rw [if_pos q8]
  obtain ⟨nA, hnA⟩ : ∃ nA, nA = nw (nw n 43 0 (F + m 143 0) u) 5 0 18 (F + m 143 0 + 1) := ⟨_, rfl⟩
  obtain ⟨mA, hmA⟩ : ∃ mA, mA = yw (yw m 142 (m 143 0) u) 143 0 (m 143 0 + 1) := ⟨_, rfl⟩
  rw [← hnA, ← hmA]
  have aK : ∀ K, K ≠ 5 → K ≠ 43 → nA K = n K := fun K x y => by rw [hnA, nw_nK x, nw_nK y]
  have a5 : ∀ s, s ≠ 18 → nA 5 0 s = n 5 0 s := fun s x => by rw [hnA, nw_ns x, nw_nK (by decide)]
  have a43 : ∀ f, f ≠ F + m 143 0 → nA 43 0 f = n 43 0 f := fun f x => by rw [hnA, nw_nK (by decide), nw_ns x]
  have a43F : nA 43 0 (F + m 143 0) = u := by rw [hnA, nw_nK (by decide), nw_eq]
  have mf : ∀ f, f ≠ 142 → f ≠ 143 → mA f = m f := fun f x y => by rw [hmA, yw_nF y, yw_nF x]
  have m143 : mA 143 0 = m 143 0 + 1 := by rw [hmA, yw_eq]
  have m142 : ∀ i, i ≠ m 143 0 → mA 142 i = m 142 i := fun i x => by rw [hmA, yw_nF (by decide), yw_ni x]
  have m142F : mA 142 (m 143 0) = u := by rw [hmA, yw_nF (by decide), yw_eq]
  have a3 : nA 3 = n 3 := aK 3 (by decide) (by decide)
  have qf := fun y => flR_m (m := m) (m' := mA) (y := y) (F := F) (fun f hf => mf f (by omega) (by omega))
  have kc : ∀ a, ITk n m v a → ITk nA mA v a := fun a h => h.cg (fun a s _ _ => by rw [a3]) (a5 6 (by decide)) (a5 5 (by decide)) (fun i => by rw [aK 99 (by decide) (by decide)]) (fun f hf => mf f (by omega) (by omega))
  have fc : ∀ a, FLb n m v a → FLb nA mA v a := fun a h => h.cg (fun a s _ _ => by rw [a3]) (fun f hf => mf f (by omega) (by omega))
  refine ⟨⟨LFl.cy (m := m) ⟨l1.cg (a5 8 (by decide)) (fun a s _ _ => by rw [a3]) rfl rfl, by rw [a5 17 (by decide)]; exact l2, l3.cg (fun f _ _ => a43 f (by omega)) (fun f _ _ => by rw [a3]) (fun _ _ _ => ⟨rfl, rfl, rfl, rfl, rfl⟩), by rw [a5 19 (by decide)]; exact l4, by rw [a5 11 (by decide)]; exact l5⟩ (fun f hf => mf f (by omega) (by omega)), ⟨by rw [a5 10 (by decide), a5 9 (by decide), aK 93 (by decide) (by decide), mf 131 (by decide) (by decide)]; exact i1, fun i p q => ?_, fun i j p q r => ?_, ?_⟩, ⟨⟨?_, by omega, by omega⟩, fun i p q => ?_, fun i j p q r => ?_⟩, ⟨by rw [mf 144 (by decide) (by decide)]; exact e1.1, by rw [a5 15 (by decide)]; exact e1.2⟩, fun z => ?_, fun z => ?_⟩, ?_, ?_, ⟨fun K hK => ?_, fun a s _ _ => by rw [a3], fun a _ _ => by rw [a3], fun s x => a5 s (by omega), ⟨by rw [aK 90 (by decide) (by decide)]; exact Int.le_refl _, fun q _ => by rw [aK 92 (by decide) (by decide), aK 93 (by decide) (by decide)]; exact ⟨rfl, rfl⟩, fun q _ _ _ => by rw [aK 99 (by decide) (by decide)], .inl (a5 9 (by decide))⟩, fun j _ _ => by rw [aK 99 (by decide) (by decide)], fun i _ _ => by rw [aK 99 (by decide) (by decide)]; exact ⟨rfl, rfl⟩⟩, ⟨fun f hf => mf f (by simp only [List.mem_cons, List.not_mem_nil, or_false, not_or] at hf; omega) (by simp only [List.mem_cons, List.not_mem_nil, or_false, not_or] at hf; omega), fun a _ _ => by rw [mf 110 (by decide) (by decide), mf 111 (by decide) (by decide)]; exact ⟨rfl, rfl⟩, fun w _ _ => by rw [mf 121 (by decide) (by decide), mf 122 (by decide) (by decide)]; exact ⟨rfl, rfl⟩⟩, ?_, by rw [mf 127 (by decide) (by decide)]; exact Int.le_refl _, fun a x h => ?_, fun w x h => ?_, by rw [mf 131 (by decide) (by decide)]; omega, by omega, fun q x y z => ?_, fun q x y => ?_, fun f x y => ?_, fun _ => .inr (.inr ⟨m 143 0, t1.2.1, by omega, m142F⟩), fun z => absurd z h107⟩
  · rw [mf 131 (by decide) (by decide)] at q
    obtain ⟨j1, j2, j3, j4⟩ := i2 i p q
    rw [a5 9 (by decide), aK 99 (by decide) (by decide), mf 134 (by decide) (by decide), mf 135 (by decide) (by decide)]
    refine ⟨j1, kc _ j2, ?_, j4⟩
    unfold ixX at *
    rw [a3, aK 99 (by decide) (by decide), a5 5 (by decide)]; exact j3
  · rw [mf 131 (by decide) (by decide)] at r
    rw [mf 134 (by decide) (by decide)]; exact i3 i j p q r
  · rw [mf 132 (by decide) (by decide), mf 131 (by decide) (by decide), i4, mxH_cg (m := m) (m' := mA) (I := m 131 0) (fun i _ _ => by rw [mf 134 (by decide) (by decide)]) (fun i _ _ => iH_cg (fun f hf => mf f (by omega) (by omega))) _ (by have := i1.2.1; omega)]
  · rw [hnA, nw_eq, m143]; omega
  · rw [m143] at q
    by_cases z : i = m 143 0
    · rw [z, a43F, m142F]; exact ⟨rfl, fc u hF0⟩
    · have h := t2 i p (by omega)
      rw [a43 _ (by omega), m142 i z]
      exact ⟨h.1, fc _ h.2⟩
  · rw [m143] at r
    by_cases z : j = F + m 143 0
    · rw [z, a43F, a43 i (by omega)]; exact hfr i p (by omega)
    · rw [a43 i (by omega), a43 j z]; exact t3 i j p q (by omega)
  · rw [mf 131 (by decide) (by decide)] at z
    rw [a5 12 (by decide), a5 13 (by decide), a5 15 (by decide), mf 130 (by decide) (by decide), mf 129 (by decide) (by decide), mf 144 (by decide) (by decide)]
    exact e2 z
  · rw [mf 131 (by decide) (by decide)] at z; omega
  · exact hB.cg (aK 4 (by decide) (by decide)) ⟨a5 5 (by decide), a5 9 (by decide)⟩ (aK 90 (by decide) (by decide)) (aK 91 (by decide) (by decide)) (aK 92 (by decide) (by decide)) (aK 93 (by decide) (by decide))
  · unfold WLc at *
    rw [a5 5 (by decide), a5 9 (by decide), a5 6 (by decide), aK 92 (by decide) (by decide), aK 93 (by decide) (by decide)]; exact hW
  · simp only [List.mem_cons, List.not_mem_nil, or_false, not_or] at hK
    exact aK K (by omega) (by omega)
  · unfold pot
    have hw : wC mA (m 143 0) = cst n u := by
      unfold wC
      rw [m142F, mf 113 (by decide) (by decide), mf 105 (by decide) (by decide), ec]
      exact hF0.wC.2
    have ez : zsm (wC mA) 0 (m 143 0) = zsm (wC m) 0 (m 143 0) := zsm_cg (fun j x y => by unfold wC; rw [m142 j (by omega), mf 113 (by decide) (by decide), mf 105 (by decide) (by decide)])
    rw [mf 127 (by decide) (by decide), (qf 0).2.2.2, mf 132 (by decide) (by decide), m143, zsm_succ t1.2.1, ez, hw]
    omega
  · rcases h with h | ⟨i, y1, y2, y3⟩ | ⟨i, y1, y2, y3⟩
    · refine .inl ?_
      unfold DNb at *
      rw [a3, mf 110 (by decide) (by decide), mf 111 (by decide) (by decide)]; exact h
    · exact .inr (.inl ⟨i, y1, by rw [mf 131 (by decide) (by decide)]; exact y2, by rw [mf 134 (by decide) (by decide)]; exact y3⟩)
    · exact .inr (.inr ⟨i, y1, by omega, by rw [m142 i (by omega)]; exact y3⟩)
  · rcases h with h | ⟨i, y1, y2, y3⟩
    · refine .inl ?_
      unfold DNw at *
      rw [a5 5 (by decide), aK 99 (by decide) (by decide), mf 121 (by decide) (by decide), mf 122 (by decide) (by decide)]; exact h
    · exact .inr ⟨i, y1, by rw [mf 131 (by decide) (by decide)]; exact y2, by rw [mf 134 (by decide) (by decide)]; exact y3⟩
  · exact .inr ⟨q, x, by rw [mf 131 (by decide) (by decide)] at y; exact y, by rw [mf 134 (by decide) (by decide)]⟩
  · rw [mf 131 (by decide) (by decide)] at y
    rw [mf 134 (by decide) (by decide)]; exact hwb q x y
  · rw [m143] at y
    by_cases z : f = F + m 143 0
    · rw [z]; exact .inl a43F
    · exact .inr ⟨f, x, by omega, (a43 f z).symm⟩
theorem stepL_both (hS : LSx n m v E wd F) (hB : BI A B n) (hW : WLc n) (hN : NFx n m v u) (hit : ∀ q, 0 ≤ q → q < m 131 0 → m 134 q ≠ -1 - u) (hfr : ∀ f, 0 ≤ f → f < F + m 143 0 → n 43 0 f ≠ u) (hfc : F + m 143 0 ≤ 118) (hwb : ∀ q, 0 ≤ q → q < m 131 0 → m 134 q < wb) (hwb0 : 0 ≤ wb) (h6 : m 107 u = 6 → wb ≤ m 116 u) (hr : m 131 0 + 200 ≤ 24000) (hp : pot m F + cst n u ≤ 900000) :
    ∃ n' m' F', (if n 7 u 0 = 17 then N_Layout_putWords (5 * u) u n else N_Layout_layInLines u u n) = some n' ∧ (∀ thing, nb_Y_lineThing_2 thing u m = nk_Y_lineThing_173 thing u (if m 107 u = 3 then 0 else 1) m') ∧ STQ A B v E wd u (if m 107 u = 6 then m 116 u + n 3 u 19 else wb) (cst n u) n m F n' m' F' ∧ QST m u (n 3 u 19) m' := by
  obtain ⟨⟨hu, h46, h1, h109⟩, hk⟩ := hN
  have hiB := y_isBox (m := m) hu
  have hE := hS.1.1.2.2.2.1
  have i1 := hS.2.1.1
  rcases hk with ⟨k1, k2, k3, k4, k5, k6⟩ | ⟨k1, k2, k3, k4⟩ | ⟨k1, k2, k3, k4⟩ | ⟨k1, k2, k3, k4⟩ | ⟨k1, k2, k3, k4, k5⟩
  · -- a PIECE
    have ec : cst n u = 4200 := by unfold cst; rw [if_neg (by omega)]
    have hI : ITk n m v (-1 - u) := .inl ⟨by omega, by omega, by rw [show -1 - (-1 - u) = u by omega]; exact k5.1, by rw [show -1 - (-1 - u) = u by omega]; omega, by rw [show -1 - (-1 - u) = u by omega]; exact h1, by rw [show -1 - (-1 - u) = u by omega]; exact h109, by rw [show -1 - (-1 - u) = u by omega]; exact k1⟩
    have hih := hI.iH_b
    obtain ⟨n', m', F', p1, p2, p3, p4, p5, p6, p7, p8, p9, p10, p11, p12, p13, p14, p15⟩ := putItem_both (w := n 3 u 4) (s := n 3 u 11) hS hB hW hI hit (by omega) k4.2 k6.2 (by omega)
    have hq6 : m 107 u ≠ 6 := by omega
    have hJ : J1v m (-1 - u) (n 3 u 4) m' := ov_put hS.lni (fun ⟨q, x, y, z⟩ => hit q x y z) (by omega) m' p2
    refine ⟨n', m', F', ?_, fun thing => ?_, ⟨p3, p4, p5, p6.rs, p7, by omega, p9, p10, p11, by omega, by omega, fun q x y z => p15 q x y, fun q x y => ?_, fun f x y => .inr ⟨f, x, by omega, by rw [p6.1 43 (by decide)]⟩, fun _ => .inr (.inl p12), fun z => by omega⟩, .of hq6 (fun w x h => hJ.2.2.2.2.1 w x (by omega) (by omega) h)⟩
    · rw [h46, if_neg (by omega)]
      unfold N_Layout_layInLines
      rw [ix_e _ hu, h46, if_neg (by omega), k1, if_pos rfl, ck_e _ (by omega), p1]; rfl
    · unfold nb_Y_lineThing_2
      rw [if_neg (by omega), hiB, if_neg (by omega)]
      simp only [Option.bind_some]
      rw [if_pos trivial, ix_e _ hu, if_pos k2, ck_e _ (by omega), ix_e _ hu, y_of hu (by decide), ← k6.1, ← k4.1]
      simp only [Option.bind_some]
      rw [p2, if_neg (by omega)]; rfl
    · rw [if_neg (by omega)]
      rcases p15 q x y with z | ⟨j, j1, j2, j3⟩
      · omega
      · rw [← j3]; exact hwb j j1 j2
  · -- a line ends
    have ec : cst n u = 4200 := by unfold cst; rw [if_neg (by omega)]
    by_cases hI : 0 < m 131 0
    · obtain ⟨n1, m1, c1, c2, ⟨c3, c4, c5, c6, c7, c8, c9, c10⟩⟩ := closeLine_both hS hW hI (by omega)
      have hS2 := c3.bl (x := n1 5 0 15) (y := 0) c3.2.2.2.1.2 (.inl rfl) (fun z => by omega)
      rw [nwS] at hS2
      have h143 := (c3.2.2.2.2.2 c4).1
      have hV := ov_end hS.lni m1 c2
      have hq6 : m 107 u ≠ 6 := by omega
      refine ⟨n1, yw m1 144 0 0, F + m 143 0, ?_, fun thing => ?_, ⟨hS2, c7.bi hB, c7.wl hW, c7.rl.rs, c8.trans (FY.cy bl_fy), by rw [pot_144]; omega, by rw [yw_nF (by decide)]; exact c6, fun a x h => ?_, fun a x h => ?_, by rw [yw_nF (by decide)]; omega, by rw [yw_nF (by decide)]; omega, fun q x y z => by rw [yw_nF (by decide)] at y; omega, fun q x y => by rw [yw_nF (by decide)] at y; omega, fun f x y => .inr ⟨f, x, by rw [yw_nF (by decide)] at y; omega, by rw [c7.1 43 (by decide) (by decide) (by decide)]⟩, fun z => by omega, fun z => by omega⟩, .of hq6 (fun w x h => ((hV.2.2.2.2 w x h).qp hV.1.1).w44)⟩
      · rw [h46, if_neg (by omega)]
        unfold N_Layout_layInLines
        rw [ix_e _ hu, h46, if_pos k3, i1.1, if_neg (by omega), c1]; rfl
      · unfold nb_Y_lineThing_2
        rw [if_neg (by omega), hiB, if_neg (by omega)]
        simp only [Option.bind_some]
        rw [if_pos trivial, ix_e _ hu, if_neg (by omega), ix_e _ hu, if_pos k2, if_pos hI, c2, if_neg (by omega)]; rfl
      · have := (SNb.bl (x := n1 5 0 15) (y := 0) (.inl (c9 a x h) : SNb n1 m1 E a))
        rw [nwS] at this; exact this
      · have := (SNw.bl (x := n1 5 0 15) (y := 0) (.inl (c10 a x h) : SNw n1 m1 E a))
        rw [nwS] at this; exact this
    · have hI0 : m 131 0 = 0 := by omega
      obtain ⟨m1, hm1⟩ : ∃ m1, m1 = yw (yw m 127 0 (m 127 0 + 7 * n 3 u 11)) 144 0 0 := ⟨_, rfl⟩
      have fy : FY [127, 128, 129, 130, 144] m m1 := fun f hf => by
        simp only [List.mem_cons, List.not_mem_nil, or_false, not_or] at hf
        rw [hm1, yw_nF (by omega), yw_nF (by omega)]
      have h127 : m1 127 0 = m 127 0 + 7 * n 3 u 11 := by rw [hm1, yw_nF (by decide), yw_eq]
      have l5 := hS.1.2.2.2.2
      have hpp := hp
      unfold pot at hpp
      have hmE := (mxE_ge (m := m) F.toNat).1
      have f1 := (hS.2.2.2.2.2 hI0).1
      have h132 : m 132 0 = 0 := by rw [hS.2.1.2.2.2, hI0]; rfl
      rw [f1, zsm_nil (Int.le_refl _)] at hpp
      obtain ⟨q1, q2⟩ := hS.mv hI0 (y := m 127 0 + 7 * n 3 u 11) (by omega) fy h127 (by rw [hm1, yw_eq]; exact .inl rfl)
      have cn : FVn v n (cMv n m E F (m 127 0 + 7 * n 3 u 11)) := cMv_cn
      have emx := (flR_m (m := m) (m' := m1) (y := 0) (F := F) (fun f hf => fy f (by simp only [List.mem_cons, List.not_mem_nil, or_false, not_or]; omega))).2.2.2
      refine ⟨cMv n m E F (m 127 0 + 7 * n 3 u 11), m1, F, ?_, fun thing => ?_, ⟨q2, cn.bi hB, cn.wl hW, cn.rl.rs, FY.cy fy, ?_, by omega, fun a x h => h.mv fy, fun a x h => h.mv fy, by rw [fy 131 (by decide)]; omega, by rw [fy 143 (by decide)]; omega, fun q x y z => by rw [fy 131 (by decide)] at y; omega, fun q x y => by rw [fy 131 (by decide)] at y; omega, fun f x y => .inr ⟨f, x, by rw [fy 143 (by decide)] at y; omega, by rw [cMv_K (by decide)]⟩, fun z => by omega, fun z => by omega⟩, .of (by omega) (fun w x h => h.mv hI0 fy)⟩
      · rw [h46, if_neg (by omega)]
        unfold N_Layout_layInLines st
        dsimp only
        rw [ix_e _ hu, h46, if_pos k3, i1.1, if_pos hI0, l5.1, ck_e _ (by omega), ck_e _ (by omega), nw_eq, show m 127 0 + E + 7 * n 3 u 11 = m 127 0 + 7 * n 3 u 11 + E by omega, q1]; rfl
      · unfold nb_Y_lineThing_2 nk_Y_lineThing_131 st
        dsimp only
        rw [if_neg (by omega), hiB, if_neg (by omega)]
        simp only [Option.bind_some]
        rw [if_pos trivial, ix_e _ hu, if_neg (by omega), ix_e _ hu, if_pos k2, if_neg hI, y_of hu (by decide), ← k4.1]
        simp only [Option.bind_some]
        rw [ck_e _ (by omega), ck_e _ (by omega), if_neg (by omega), hm1]
      · unfold pot
        rw [h127, emx, fy 132 (by decide), fy 143 (by decide), f1, zsm_nil (Int.le_refl _), zsm_nil (Int.le_refl _)]
        omega
  · -- a TEXT
    have ec : cst n u = 4200 := by unfold cst; rw [if_neg (by omega)]
    obtain ⟨n', m', F', w1, w2, w3, w4, w5, w6, w7⟩ := words_both hS hB hW k4 (fun q x y => by have := hwb q x y; have := h6 k2; omega) hr (by omega)
    refine ⟨n', m', F', ?_, fun thing => ?_, ?_, fun w x y h => w6 w x (y k2) h, fun _ => w7⟩
    · rw [h46, if_pos k3]; exact w1
    · unfold nb_Y_lineThing_2
      rw [if_neg (by omega), hiB, if_neg (by omega)]
      simp only [Option.bind_some]
      rw [if_pos trivial, ix_e _ hu, if_neg (by omega), ix_e _ hu, if_neg (by omega), ix_e _ hu, if_pos k2, w2, if_neg (by omega)]; rfl
    · refine w3.stp (by omega) (fun q x y => ?_) (fun z => by omega) (fun _ => w5)
      rw [if_pos k2]; exact w4 q x y
  · -- an element in the line
    have ec : cst n u = 4200 := by unfold cst; rw [if_neg (by omega)]
    refine ⟨n, m, F, ?_, fun thing => ?_, ((LNR.refl hS hB hW).mono (Int.le_refl 0) (show (0 : Int) ≤ 200 by decide)).stp (by omega) (fun q x y => ?_) (fun z => by omega) (fun z => by omega), .of (by omega) (fun w x h => h)⟩
    · rw [h46, if_neg k3]
      unfold N_Layout_layInLines
      rw [ix_e _ hu, h46, if_neg k4, k1, if_neg (by decide), if_neg (by decide)]
    · unfold nb_Y_lineThing_2 nk_Y_lineThing_172
      rw [if_neg (by omega), hiB, if_neg (by omega)]
      simp only [Option.bind_some]
      rw [if_pos trivial, ix_e _ hu, if_neg (by omega), ix_e _ hu, if_neg (by omega), ix_e _ hu, if_neg (by omega), ix_e _ hu, if_neg (by omega), if_pos k2]
    · rw [if_neg (by omega)]; exact hwb q x y
  · -- a FLOAT
    have h3 : ¬ m 107 u = 3 := by omega
    have h6' : ¬ m 107 u = 6 := by omega
    rw [if_neg h6']
    by_cases hI : 0 < m 131 0
    · refine ⟨_, _, F, ?_, fun thing => ?_, float1 hS hB hW k5 hfr hfc hI hwb (by omega), .kf h6' (KYf.wr (by decide) (KYf.wr (by decide) KYf.refl))⟩
      · rw [h46, if_neg k3]
        unfold N_Layout_layInLines st
        dsimp only
        have t1 := hS.2.2.1.1
        rw [ix_e _ hu, h46, if_neg k4, k1, if_neg (by decide), if_pos rfl, t1.1, ix_e _ (by have := hS.1.2.1.2.2; omega), nw_nK (show (5 : Nat) ≠ 43 by decide), t1.1, ck_e _ (by have := hS.1.2.1.2.2; omega), nw_ns (show (10 : Int) ≠ 18 by decide), nw_nK (show (5 : Nat) ≠ 43 by decide), i1.1, if_neg (by omega)]
      · unfold nb_Y_lineThing_2 st
        dsimp only
        have t1 := hS.2.2.1.1
        rw [if_neg (by omega), hiB, if_pos k2]
        simp only [Option.bind_some]
        rw [if_neg (by decide), if_pos hI, ix_e _ (by have := hS.1.2.1.2.2; omega), yw_nF (show (143 : Nat) ≠ 142 by decide), ck_e _ (by have := hS.1.2.1.2.2; omega), if_neg h3]
    · obtain ⟨n', m', g1, g2, g3⟩ := float0 (wb := wb) hS hB hW k5 hfr hfc (by omega) hp (by omega)
      refine ⟨n', m', F + 1, ?_, fun thing => ?_, g3, .kf h6' (f_N_Y_putFloat KYf.refl m' g2)⟩
      · rw [h46, if_neg k3]
        unfold N_Layout_layInLines
        rw [ix_e _ hu, h46, if_neg k4, k1, if_neg (by decide), if_pos rfl]
        exact g1
      · unfold nb_Y_lineThing_2
        rw [if_neg (by omega), hiB, if_pos k2]
        simp only [Option.bind_some]
        rw [if_neg (by decide), if_neg hI, g2, if_neg h3]; rfl
end W8
