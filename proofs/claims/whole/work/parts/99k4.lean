/-! A PAGE COMES, in both: up to its reading -/
/-- the text that is to be read -/
def SRC (Bs : Int → Prop) (n : NS) (m : YS) (a : Int) : Prop := (0 ≤ a ∧ a < n 90 0 0 ∧ n 92 0 a = 102) ∧ Bs (n 99 a 6) ∧ n 93 0 (n 99 a 6) = m 76 0 ∧ (0 ≤ m 76 0 ∧ m 76 0 ≤ 1280) ∧ ∀ j, 0 ≤ j → j < m 76 0 → n 99 (n 99 a 6) j = m 75 j ∧ isTx (m 75 j)
abbrev arA (x : Int) : Prop := x = 1578 ∨ x = 1586 ∨ x = 1582
section K4
variable {n n' n'' : NS} {m m' m'' : YS} {A B N a b i v1 v2 k l : Int} {nm q mk nm' q' mk' X Y : List Int} {ss ss' : List (List Int)} {As Bs W S : Int → Prop} {κ o e p : Int → Int}
theorem arrive1 (h : JFe κ As Bs A B n m) (hT : AR n m 1584 0) (h35 : m 35 0 < 700000000) :
    ∃ a n22 m20 κ', N_Net_arrive n = (if n22 6 0 16 = 1 then (N_Net_pushHistory n22).bind (fun n28 => nk_Net_arrive_43 a n28) else nk_Net_arrive_43 a n22) ∧ N_Y_goTo m = (N_Y_newPage m20).bind (fun m24 => some (yw m24 152 0 1)) ∧ JFe κ' As Bs A B n22 m20 ∧ AR n22 m20 1582 1 ∧ SRC Bs n22 m20 a
      ∧ (FQ As Bs arA n n22 ∧ (∀ K, K ∉ [4, 6, 24, 25, 90, 91, 92, 93, 99] → n22 K = n K) ∧ (∀ s, s ≠ 4 → s ≠ 6 → s ≠ 9 → n22 6 0 s = n 6 0 s) ∧ FS (fun x => x = 607) n n22)
      ∧ (FY [6, 7, 8, 17, 18, 23, 24, 26, 27, 28, 29, 30, 31, 32, 33, 34, 35, 36, 37, 44, 75, 76] m m20 ∧ (∀ r, r ≠ 1 → r ≠ 2 → r ≠ 3 → r ≠ 4 → ¬ (18 ≤ r ∧ r < 26) → ¬ (58 ≤ r ∧ r < 66) → RwE m m20 r) ∧ m 35 0 ≤ m20 35 0 ∧ m20 35 0 ≤ m 35 0 + 6) := by
  obtain ⟨nm, ss, q, mk, hW, hC, hR⟩ := hT
  obtain ⟨m2, ey2, y2⟩ := y_copyRow (m := m) (to := 3) (fr := 0) (by decide) (by decide) (by decide)
  have h2 : JFe κ As Bs A B n m2 := h.cg h.1 (FQ.refl As Bs (fun _ => False) n) (FQ7.refl n) (fun _ h => h.elim) (fun _ _ => rfl) (fun _ _ => rfl) rfl (fun f a b => y2.1 f (by simp only [List.mem_cons, List.not_mem_nil, or_false, not_or]; omega)) (fun r hr => RwE.cp y2 (by omega))
  have hR3 := y2.made hR hW
  have hR0 := y2.kept (r := 0) (by decide) hR hW
  have hAs := h.2.1.2.2.1
  obtain ⟨a, n6, m6, κ', ef, eg, j6, g6, l6, f6, y6⟩ := fetch_both h2 hAs.2.2.1 (by decide) hW hC hR0 (by rw [y2.1 35 (by decide)]; omega)
  have hR63 := hR3.rw hW (y6.2.1 3 (by decide) (by decide) (by decide) (by decide))
  obtain ⟨nm1, ss1, q1, hW1, hC1, hR1⟩ := l6
  have hA6 := j6.2.1.1
  have hb6 := j6.2.1.2.1
  have hC6 : CA n6 1584 nm ss q mk := hC.fq f6.1 hAs.2.2.1 (by omega)
  obtain ⟨n14, ec, s, t, hs0, en14, hCs⟩ := c_copy hA6 hAs.2.1 hAs.2.2.2 (by decide) hC1 hW1
  have fq14 : FQ As Bs (fun x => x = 1582) n6 n14 := by rw [en14]; exact FQ.aw hA6 hb6 hAs.2.1 rfl hs0
  have f714 : FQ7 n6 n14 := by rw [en14]; exact FQ7.aw hA6 hAs.2.1
  have hne := (hA6 1582 hAs.2.1).1.ne
  have hC14 : CA n14 1582 nm1 ss1 q1 [] := by unfold CA; rw [en14, aw_a hne, hs0, aw_T]; exact hCs
  have hC14' : CA n14 1584 nm ss q mk := by
    have := (hA6.chg (s := s) (t := t) hAs.2.1 hs0).2 1584 hAs.2.2.1 (by decide)
    unfold CA at hC6 ⊢
    rw [en14, this.1, this.2]; exact hC6
  have hA14 := hA6.fq fq14
  have hb14 := hb6.fq fq14
  have hB14 : BI A B n14 := by rw [en14]; exact j6.1.aw
  obtain ⟨n22, et, s2, t2, hs2, en22, hCs2⟩ := c_takeMark hA14 hAs.2.1 hAs.2.2.1 (by decide) hC14 hW1 hC14' hW
  have fq22 : FQ As Bs (fun x => x = 1582) n14 n22 := by rw [en22]; exact FQ.aw hA14 hb14 hAs.2.1 rfl hs2
  have f722 : FQ7 n14 n22 := by rw [en22]; exact FQ7.aw hA14 hAs.2.1
  have hne2 := (hA14 1582 hAs.2.1).1.ne
  have hC22 : CA n22 1582 nm1 ss1 q1 mk := by unfold CA; rw [en22, aw_a hne2, hs2, aw_T]; exact hCs2
  have hW22 : WFA nm1 ss1 q1 mk := ⟨hW1.1, hW1.2.1, hW1.2.2.1, hW.2.2.2⟩
  have fq622 := fq14.trans fq22
  have f7622 := f714.trans fq14 f722
  have k22 : ∀ K, K ≠ 99 → n22 K = n6 K := fun K hK => by rw [en22, aw_K hK, en14, aw_K hK]
  have hB22 : BI A B n22 := by rw [en22]; exact hB14.aw
  have fs22 : ∀ S : Int → Prop, FS S n6 n22 := fun S => (by rw [en14]; exact FS.aw hA6 hAs.2.1 j6.1 : FS S n6 n14).trans (by rw [en22]; exact FS.aw hA14 hAs.2.1 hB14)
  -- the reference
  have goY : ∀ w0, 0 ≤ w0 → w0 ≤ 1500 → (w0 = 0 ∨ (0 ≤ m6 44 0 ∧ m6 44 0 < 20 ∧ w0 = m6 18 (m6 44 0) ∧ ∀ j, 0 ≤ j → j < w0 → isTx (m6 17 (1500 * m6 44 0 + j)))) → ∃ m20, nk_Y_goTo_31 w0 m6 = (N_Y_newPage m20).bind (fun m24 => some (yw m24 152 0 1)) ∧ FY [6, 7, 8, 75, 76] m6 m20 ∧ (∀ r, r ≠ 1 → RwE m6 m20 r) ∧ RA m20 1 nm1 ss1 q1 mk ∧ m20 76 0 = w0 ∧ (0 < w0 → ∀ j, 0 ≤ j → j < w0 → m20 75 j = m6 17 (1500 * m6 44 0 + j)) := fun w0 w1 w2 w3 => by
    generalize hma : yw m6 76 0 w0 = ma
    have fa : FY [76] m6 ma := fun g hg => by rw [← hma]; exact yw_nF (by simp only [List.mem_cons, List.not_mem_nil, or_false] at hg; exact hg)
    have e76 : ma 76 0 = w0 := by rw [← hma, yw_eq]
    have hb : ∃ mb, NL_Y_goTo_36 0 ma = some mb ∧ FY [75] ma mb ∧ (0 < w0 → ∀ j, 0 ≤ j → j < w0 → mb 75 j = m6 17 (1500 * m6 44 0 + j)) := by
      rcases w3 with z | ⟨z1, z2, z3, z4⟩
      · exact ⟨ma, y_goText0 (by rw [e76]; exact z), fun _ _ => rfl, fun y => by omega⟩
      · obtain ⟨mb, eb, b1, b2⟩ := y_goText (m := ma) (by rw [e76]; omega) (by rw [fa 44 (by decide)]; exact ⟨z1, z2⟩)
        exact ⟨mb, eb, b1, fun _ j a b => by rw [b2 j a (by rw [e76]; exact b), fa 17 (by decide), fa 44 (by decide)]⟩
    obtain ⟨mb, eb, b1, b2⟩ := hb
    obtain ⟨mc, ecp, c1⟩ := y_copyRow (m := mb) (to := 1) (fr := 4) (by decide) (by decide) (by decide)
    have rb : ∀ r, RwE m6 mb r := fun r => (RwE.of (fa 6 (by decide)) (fa 7 (by decide)) (fa 8 (by decide))).trans (RwE.of (b1 6 (by decide)) (b1 7 (by decide)) (b1 8 (by decide)))
    have hRc := c1.made (hR1.rw hW1 (rb 4)) hW1
    have hRc3 := c1.kept (r := 3) (by decide) (hR63.rw hW (rb 3)) hW
    generalize hmd : yw mc 8 1 (mc 8 3) = md
    have fd : FY [8] mc md := fun g hg => by rw [← hmd]; exact yw_nF (by simp only [List.mem_cons, List.not_mem_nil, or_false] at hg; exact hg)
    have e83 : md 8 3 = (mk.length : Int) := by rw [← hmd, yw_ni (by decide)]; exact hRc3.2.2.1
    have e81 : md 8 1 = (mk.length : Int) := by rw [← hmd, yw_eq]; exact hRc3.2.2.1
    have hmk := hW.2.2.2.1
    obtain ⟨me, ee, e1, e2, e3⟩ := y_goMark (m := md) (by rw [e83]; omega)
    rw [e83] at e2 e3
    have hsz := hW1.sz
    refine ⟨me, ?_, fun g hg => ?_, fun r hr => ?_, ⟨?_, ?_, ?_, ?_⟩, ?_, fun y j a b => ?_⟩
    · unfold nk_Y_goTo_31 st ix
      dsimp only
      rw [hma, eb]
      simp only [Option.bind_some]
      rw [ecp]
      simp only [Option.bind_some]
      rw [if_pos (by decide), if_pos (by decide), hmd, ee]
      rfl
    · simp only [List.mem_cons, List.not_mem_nil, or_false, not_or] at hg
      rw [e1 g (by simp only [List.mem_cons, List.not_mem_nil, or_false]; omega), fd g (by simp only [List.mem_cons, List.not_mem_nil, or_false]; omega), c1.1 g (by simp only [List.mem_cons, List.not_mem_nil, or_false, not_or]; omega), b1 g (by simp only [List.mem_cons, List.not_mem_nil, or_false]; omega), fa g (by simp only [List.mem_cons, List.not_mem_nil, or_false]; omega)]
    · refine ((rb r).trans (RwE.cp c1 hr)).trans ⟨by rw [e1 7 (by decide), fd 7 (by decide)], by rw [e1 8 (by decide), ← hmd, yw_ni hr], fun j a b => by rw [e3 j (by omega), fd 6 (by decide)]⟩
    · rw [e1 7 (by decide), fd 7 (by decide)]; exact hRc.1
    · refine Eq.trans (sg_cg _ _ (150 * 1) (fun x hx => ?_)) hRc.2.1
      rw [e3 _ (by omega), fd 6 (by decide)]
    · rw [e1 8 (by decide)]; exact e81
    · refine Eq.trans (sg_cg _ _ (150 * 3 + 135) (fun x hx => ?_)) hRc3.2.2.2
      rw [show 150 * 1 + 135 + (x : Int) = 285 + x by omega, e2 x (by omega) (by omega), fd 6 (by decide)]
      congr 1
    · rw [e1 76 (by decide), fd 76 (by decide), c1.1 76 (by decide), b1 76 (by decide)]; exact e76
    · rw [e1 75 (by decide), fd 75 (by decide), c1.1 75 (by decide)]; exact b2 y j a b
  have eC : N_Net_arrive n = (if n22 6 0 16 = 1 then (N_Net_pushHistory n22).bind (fun n28 => nk_Net_arrive_43 a n28) else nk_Net_arrive_43 a n22) := by
    unfold N_Net_arrive
    rw [ef]
    show ty n6 1582 101 _ = _
    unfold ty
    rw [if_pos (hA6 1582 hAs.2.1).1.2.1, ec]
    simp only [Option.bind_some]
    rw [if_pos (hA14 1582 hAs.2.1).1.2.1, et]
    rfl
  have eY0 : N_Y_goTo m = if m6 44 0 < 0 then nk_Y_goTo_31 0 m6 else ix (m6 44 0) 20 (nk_Y_goTo_31 (m6 18 (m6 44 0)) m6) := by
    unfold N_Y_goTo
    rw [ey2]
    simp only [Option.bind_some]
    rw [eg]; rfl
  have fin : ∀ w0 m20, N_Y_goTo m = (N_Y_newPage m20).bind (fun m24 => some (yw m24 152 0 1)) → FY [6, 7, 8, 75, 76] m6 m20 → (∀ r, r ≠ 1 → RwE m6 m20 r) → RA m20 1 nm1 ss1 q1 mk → m20 76 0 = w0 → SRC Bs n22 m20 a → ∃ a n22 m20 κ', N_Net_arrive n = (if n22 6 0 16 = 1 then (N_Net_pushHistory n22).bind (fun n28 => nk_Net_arrive_43 a n28) else nk_Net_arrive_43 a n22) ∧ N_Y_goTo m = (N_Y_newPage m20).bind (fun m24 => some (yw m24 152 0 1)) ∧ JFe κ' As Bs A B n22 m20 ∧ AR n22 m20 1582 1 ∧ SRC Bs n22 m20 a ∧ (FQ As Bs arA n n22 ∧ (∀ K, K ∉ [4, 6, 24, 25, 90, 91, 92, 93, 99] → n22 K = n K) ∧ (∀ s, s ≠ 4 → s ≠ 6 → s ≠ 9 → n22 6 0 s = n 6 0 s) ∧ FS (fun x => x = 607) n n22) ∧ (FY [6, 7, 8, 17, 18, 23, 24, 26, 27, 28, 29, 30, 31, 32, 33, 34, 35, 36, 37, 44, 75, 76] m m20 ∧ (∀ r, r ≠ 1 → r ≠ 2 → r ≠ 3 → r ≠ 4 → ¬ (18 ≤ r ∧ r < 26) → ¬ (58 ≤ r ∧ r < 66) → RwE m m20 r) ∧ m 35 0 ≤ m20 35 0 ∧ m20 35 0 ≤ m 35 0 + 6) := fun w0 m20 x1 x2 x3 x4 x5 x6 => by
    have e35 : m20 35 0 = m6 35 0 := by rw [x2 35 (by decide)]
    have e352 : m2 35 0 = m 35 0 := by rw [y2.1 35 (by decide)]
    have := y6.2.2
    refine ⟨a, n22, m20, κ', eC, x1, j6.cg hB22 fq622 f7622 (fun a ha => by omega) (fun K hK => k22 K (by omega)) (fun s _ => by rw [k22 6 (by decide)]) ((fs22 (fun _ => False)).bt (by omega) (fun h => h.elim)) (fun f a b => x2 f (by simp only [List.mem_cons, List.not_mem_nil, or_false, not_or]; omega)) (fun r hr => x3 r (by omega)), ⟨nm1, ss1, q1, mk, hW22, hC22, x4⟩, x6, ⟨(f6.1.wid (fun x hx => by unfold arA; omega)).trans (fq622.wid (fun x hx => .inr (.inr hx))), fun K c => by rw [k22 K (fun z => c (by rw [z]; decide)), f6.2.1 K c], fun s a b c => by rw [k22 6 (by decide), f6.2.2.1 s a b c], f6.2.2.2.trans (fs22 _)⟩, ⟨fun g hg => ?_, fun r r1 r2 r3 r4 r5 r6 => ((RwE.cp y2 r3).trans (y6.2.1 r r2 r4 r5 r6)).trans (x3 r r1), by omega, by omega⟩⟩
    simp only [List.mem_cons, List.not_mem_nil, or_false, not_or] at hg
    rw [x2 g (by simp only [List.mem_cons, List.not_mem_nil, or_false, not_or]; omega), y6.1 g (by simp only [List.mem_cons, List.not_mem_nil, or_false, not_or]; omega), y2.1 g (by simp only [List.mem_cons, List.not_mem_nil, or_false, not_or]; omega)]
  have bx : ∀ x, Bs x → n22 99 x = n6 99 x ∧ n22 93 0 x = n6 93 0 x := fun x hx => ⟨fq622.2.2.2.1 x hx, (fq622.2.1 x (hb6 x hx).1.2).2⟩
  rcases g6 with ⟨z1, z2⟩ | ⟨z1, z2, z3⟩
  · obtain ⟨m20, x1, x2, x3, x4, x5, x6⟩ := goY 0 (by decide) (by decide) (.inl rfl)
    have hE := j6.2.1.2.2.2.2.2.1
    have ee : ∀ s, s ≠ 7 → n22 99 1570 s = n6 99 1570 s := fun s hs => fq622.2.2.2.2.1 1570 (by decide) hE.1.1 hE.1.2 s hs
    refine fin 0 m20 (by rw [eY0, if_pos (by omega)]; exact x1) x2 x3 x4 x5 ⟨by rw [z2, k22 90 (by decide), k22 92 (by decide)]; exact ⟨by decide, hE.1.1, hE.1.2⟩, by rw [z2, ee 6 (by decide)]; exact hE.2.2.2.2.2.1, by rw [z2, ee 6 (by decide), (bx _ hE.2.2.2.2.2.1).2, x5]; exact hE.2.2.2.2.2.2, by rw [x5]; decide, fun j a b => by rw [x5] at b; omega⟩
  · obtain ⟨b1, b2, b3, b4, b5, b6, b7, b8⟩ := z3
    obtain ⟨m20, x1, x2, x3, x4, x5, x6⟩ := goY (m6 18 (m6 44 0)) b6.1 (by omega) (.inr ⟨z1, z2, rfl, fun j a b => (b8 j a b).2⟩)
    have ee : ∀ s, s ≠ 7 → n22 99 a s = n6 99 a s := fun s hs => fq622.2.2.2.2.1 a b1.1 b1.2.1 b1.2.2 s hs
    refine fin _ m20 (by rw [eY0, if_neg (by omega)]; unfold ix; rw [if_pos ⟨z1, z2⟩]; exact x1) x2 x3 x4 x5 ⟨by rw [k22 90 (by decide), k22 92 (by decide)]; exact b1, by rw [ee 6 (by decide)]; exact b5, by rw [ee 6 (by decide), (bx _ b5).2, x5]; exact b7, by rw [x5]; exact b6, fun j a b => ?_⟩
    rw [x5] at b
    rw [ee 6 (by decide), (bx _ b5).1, x6 (by omega) j a b]
    exact b8 j a b
end K4
