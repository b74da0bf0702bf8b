/-! THE CALLS page and visit -/
section O5
variable {n n' n'' n2 : NS} {m m' m'' m0 m6 mR : YS} {A B N N' k b a δ δ' fr to d L r r' q x f v c G G' i : Int} {o e p o' e' p' : Int → Int} {As Bs W S : Int → Prop}
theorem tape_fin (hC : CI As Bs A B G n2 m6) (hO : JOut n2 m6) (h1 : m6 1 0 = 0) (hz : FZ n n2 m m6) : ∃ n3, (N_Bytes_clear 605 n2).bind (fun n3 => some (r, n3)) = some (r, n3) ∧ CI As Bs A B G n3 m6 ∧ JTape n3 m6 ∧ JOut n3 m6 ∧ FZ n n3 m m6 := by
  obtain ⟨n3, k1, k2, k3, k4⟩ := cs_clear (b := 605) (by omega) hC.1.bi
  exact ⟨n3, by rw [k1]; rfl, hC.rows k2 k3 (fun x hx => .inl hx) (fun _ _ => rfl), JTape_clear k2 k4 h1, hO.fb hC.1.bi k3 (fun x hx => by have hx : x = 605 := hx; omega) (by omega) rfl rfl, hz.trans (FZ.fb hC.1.bi k3 (fun x hx => by have hx : x = 605 := hx; omega) (fun _ _ => rfl))⟩
theorem JOut.fc (h : JOut n m) (hF : FC n n' m m') : JOut n' m' := by
  unfold JOut at *
  rw [hF.1.2.1.bt (b := 606) (by omega) (by omega), (hF.1.2.1 606 (by decide) (by decide) (by omega)).1]
  unfold ys at *
  rw [hF.2.1 4 (by omega), hF.2.1 5 (by omega)]; exact h
/-- a page has been read: what acts hold -/
theorem JA.page (h : JA As Bs A B δ G n m) (x3 : BI A B n2) (x4 : JT n2 mR N' o' e' p') (x5 : JP mR N' o' p') (x6 : JF n2 mR) (x7 : FRR n n2) (x8 : FYR m mR) (x9 : n2 10 0 6 ≤ n 10 0 6 + 2002) (x10 : mR 69 0 ≤ m 69 0 + 2001) (hf : FY [126, 150, 152, 153, 166] mR m') (h150 : m' 150 0 = -1) (h166 : m' 166 0 = 0) : JA As Bs A B δ (G + 2100) (nw (nw n2 0 0 6 (-1)) 0 0 5 0) m' := by
  obtain ⟨κ, N, o, e, p, h1, h2, h3, ⟨h4, h4'⟩, h5, h6, h7, h8⟩ := h
  generalize hn7 : nw (nw n2 0 0 6 (-1)) 0 0 5 0 = n7
  have k7 : ∀ K, K ≠ 0 → n7 K = n2 K := fun K hK => by rw [← hn7, nw_nK hK, nw_nK hK]
  have e0 : n2 0 = n 0 := x7.1 0 (by decide)
  have s7 : ∀ s, s ≠ 5 → s ≠ 6 → n7 0 0 s = n 0 0 s := fun s u w => by rw [← hn7, nw_ns u, nw_ns w, e0]
  have y : ∀ g, ¬ (45 ≤ g ∧ g ≤ 88) → g ∉ [126, 150, 152, 153, 166] → m' g = m g := fun g a b => by rw [hf g b, x8 g a]
  have y2 : ∀ g, g ∉ [126, 150, 152, 153, 166] → m' g = mR g := hf
  have jn : JNt κ As Bs A B n2 m' := by
    have := h1.frr x3 x7 x8
    obtain ⟨hJ, hH, hP⟩ := this
    have r : ∀ r, RwE mR m' r := fun r => RwE.of (y2 6 (by decide)) (y2 7 (by decide)) (y2 8 (by decide))
    exact ⟨hJ.cg x3 (FQ.refl As Bs (fun _ => False) n2) (FQ7.refl n2) (fun _ h => h.elim) (fun _ _ => rfl) (fun _ _ => rfl) rfl (fun f a b => y2 f (by simp only [List.mem_cons, List.not_mem_nil, or_false, not_or]; omega)) (fun x _ => r x), hH.cg (FQ.refl As Bs (fun _ => False) n2) (fun _ h => h.elim) ⟨rfl, rfl⟩ rfl ⟨y2 148 (by decide), y2 149 (by decide)⟩ (fun x _ _ => r x), hP.fq (FQ.refl As Bs (fun _ => False) n2) hJ.2.1.2.2.1.2.1 (fun h => h.elim) (r 1)⟩
  have jt : JTr n2 m' N' o' e' p' := by
    have t : JTr n2 mR N' o' e' p' := ⟨x4, x5, x6, by have := x7.2.2.2.2.2.2; have := h2.2.2.2; omega⟩
    exact t.cg (fun _ _ => rfl) (fun _ _ _ => rfl) (fun g a b => y2 g (by simp only [List.mem_cons, List.not_mem_nil, or_false, not_or]; omega))
  refine ⟨κ, N', o', e', p', jn.ks k7, jt.ks (fun K hK => k7 K (by omega)), fun k a b => by rw [k7 21 (by decide), x7.1 21 (by decide)]; exact h3 k a b, ⟨?_, fun i a b => by rw [h166] at b; omega⟩, ?_, ?_, .inl ⟨?_, h150⟩, ?_⟩
  · obtain ⟨t1, t2, t3, t4, t5, t6⟩ := h4
    refine ⟨⟨by rw [← hn7, nw_eq, h166], by rw [h166]; decide, by rw [h166]; decide⟩, ?_, ?_, fun i a b => by rw [h166] at b; omega, fun i j a b c => by rw [h166] at c; omega, ?_⟩
    · rw [k7 45 (by decide), x7.1 45 (by decide)]; exact t2
    · rw [k7 45 (by decide), x7.1 45 (by decide)]; exact t3
    · rw [y 167 (by decide) (by decide)]; exact t6
  · exact h5.cg (by rw [k7 26 (by decide), x7.1 26 (by decide)]) (by rw [k7 6 (by decide), x7.1 6 (by decide)]) (fun g a b => y g (by omega) (by simp only [List.mem_cons, List.not_mem_nil, or_false, not_or]; omega))
  · unfold JCt at *
    rw [s7 7 (by decide) (by decide), s7 8 (by decide) (by decide), s7 10 (by decide) (by decide), y 155 (by decide) (by decide), y 156 (by decide) (by decide), y 157 (by decide) (by decide)]; exact h6
  · rw [← hn7, nw_ns (by decide), nw_eq]
  · unfold gB at *
    rw [k7 10 (by decide), y 35 (by decide) (by decide), y 155 (by decide) (by decide), y 156 (by decide) (by decide), y 157 (by decide) (by decide), y 167 (by decide) (by decide), y2 69 (by decide)]
    omega
theorem y_settle152 (h : m 153 0 ≠ 0) : N_Y_settle (yw m 152 0 1) = N_Y_settle m := by
  have : NL_Y_settle_0 (yw m 152 0 1) = NL_Y_settle_0 m := by
    have e1 : nb_Y_settle_0 (yw m 152 0 1) = nb_Y_settle_0 m := by
      unfold nb_Y_settle_0 st
      dsimp only
      rw [yw_nF (show (153 : Nat) ≠ 152 by decide), if_neg h, if_neg h]
      have : yw (yw (yw m 152 0 1) 153 0 0) 152 0 0 = yw (yw m 153 0 0) 152 0 0 := by
        funext a b
        rw [yw_app, yw_app, yw_app, yw_app, yw_app]
        split
        · rfl
        · split
          · rfl
          · rfl
      rw [this]
    unfold NL_Y_settle_0
    rw [it_eq, it_eq]
    show (match nb_Y_settle_0 (yw m 152 0 1) with | _ => _) = _
    rw [e1]
  unfold N_Y_settle
  rw [this]
theorem call_page (hC : CI As Bs A B G n m) (hJ : JTape n m) (hO : JOut n m) (hG : G < 380000000) (h80 : m 1 0 ≤ 1280) :
    ∃ r n' m', N_H_page n = some (r, n') ∧ N_Y_page m = some (r, m') ∧ CI As Bs A B (G + 470000) n' m' ∧ JTape n' m' ∧ JOut n' m' ∧ FZ n n' m m' := by
  have hB := hC.1.bi
  obtain ⟨m5, f5, m1, ht, hs, hsz, hc⟩ := take_both hB hJ
  have f5' : ∀ f, f ∉ [1, 2, 3] → m5 f = m f := f5
  have O5 : JOut n m5 := by unfold JOut ys at *; rw [f5' 4 (by decide), f5' 5 (by decide)]; exact hO
  have C5 : CI As Bs A B G n m5 := hC.rows hB (FB.refl (fun x => x = 605) n) (fun x hx => .inl hx) (fun f hf => f5' f (by simp only [List.mem_cons, List.not_mem_nil, or_false, not_or]; omega))
  have z5 : FZ n n m m5 := FZ.fb hB (FB.refl (fun _ => False) n) (fun x hx => hx.elim) (fun f hf => f5' f (by simp only [List.mem_cons, List.not_mem_nil, or_false, not_or]; omega))
  have e31 : m5 3 0 = m 1 0 := by rw [← hsz, hJ.2.1]
  rcases hc with ⟨i, i0, i1, c1, c2⟩ | ⟨c1, c2, c3⟩
  · obtain ⟨n3, k1, k2⟩ := tape_fin (r := -1000 - i) (C5.mono (G' := G + 470000) (by omega)) O5 m1 z5
    refine ⟨-1000 - i, n3, m5, ?_, ?_, k2⟩
    · unfold N_H_page
      rw [c1]
      simp only [Option.bind_some]
      rw [if_neg (by omega)]; exact k1
    · unfold N_Y_page
      rw [c2]
      simp only [Option.bind_some, u2]
      rw [if_neg (by omega)]
      unfold N_Y_wrong ck
      rw [if_pos (by omega)]; rfl
  · obtain ⟨n8, m10, b1, b2, b3, b4, b5, b6, b7, b8, b9, b10, b11, b12, b13⟩ := begin_both C5
    have r605 : n8 4 605 = n 4 605 := (b7.1.2.1 605 (by decide) (by decide) (by omega)).1
    have d605 : n8 99 (n 4 605 1) = n 99 (n 4 605 1) := (b7.1.2.1 605 (by decide) (by decide) (by omega)).2
    have hB8 := b3.1.bi
    have hb5 := hB8.1 605 (by decide) (by decide)
    have e3 : m10 3 = m5 3 := b8 3 (by decide)
    have e2 : m10 2 = m5 2 := b8 2 (by decide)
    generalize hm15 : yw m10 76 0 (m10 3 0) = m15
    have y15 : ∀ g, g ≠ 76 → m15 g = m10 g := fun g hg => by rw [← hm15, yw_nF hg]
    have e76 : m15 76 0 = m5 3 0 := by rw [← hm15, yw_eq, e3]
    obtain ⟨m18, ec, d1, d2, d3⟩ : ev (NL_Y_page_28 0 m15) (fun m' => FY [75] m15 m' ∧ (∀ j, 0 ≤ j → j < m5 3 0 → m' 75 (0 + j) = m15 2 (0 + j)) ∧ ∀ j, ¬ (0 ≤ j ∧ j < 0 + m5 3 0) → m' 75 j = m15 75 j) := by
      unfold NL_Y_page_28
      refine y_copy (F := 75) (G := 2) (K := m5 3 0) (a := 0) (b := 0) (by decide) hs.1 (fun k m9 f9 k0 k1 => ?_) (fun m9 f9 => ?_)
      · show nb_Y_page_28 k m9 = _
        unfold nb_Y_page_28 ck ix st
        dsimp only
        rw [f9 3 (by decide), y15 3 (by decide), e3, if_pos k1, if_pos (by omega), if_pos (by omega), if_pos (by omega), show (0 : Int) + k = k by omega]
      · show nb_Y_page_28 (m5 3 0) m9 = _
        unfold nb_Y_page_28
        rw [f9 3 (by decide), y15 3 (by decide), e3, if_neg (by omega)]
    have y18 : ∀ g, g ≠ 75 → g ≠ 76 → m18 g = m10 g := fun g u w => by rw [d1 g (by simp only [List.mem_cons, List.not_mem_nil, or_false]; exact u), y15 g w]
    have e76' : m18 76 0 = m5 3 0 := by rw [d1 76 (by decide)]; exact e76
    have e75 : ∀ j, 0 ≤ j → j < m5 3 0 → m18 75 j = m5 2 j := fun j a b => by
      have := d2 j a b
      rw [show (0 : Int) + j = j by omega] at this
      rw [this, y15 2 (by decide), e2]
    have j18 : JA As Bs A B 0 G n8 m18 := by
      obtain ⟨κ, N, o, e, p, ⟨hJ, hH, hP⟩, h2, h3, ⟨h4, h4'⟩, h5, h6, h7, h8⟩ := b3.1
      have r : ∀ r, RwE m10 m18 r := fun r => RwE.of (y18 6 (by decide) (by decide)) (y18 7 (by decide) (by decide)) (y18 8 (by decide) (by decide))
      have liv : LIV m10 m18 := LIV.of (y18 45 (by decide) (by decide)) (y18 46 (by decide) (by decide)) (y18 55 (by decide) (by decide))
      have c69 : m10 69 0 ≤ m18 69 0 := by rw [y18 69 (by decide) (by decide)]; exact Int.le_refl _
      refine ⟨κ, N, o, e, p, ⟨hJ.cg hB8 (FQ.refl As Bs (fun _ => False) n8) (FQ7.refl n8) (fun _ h => h.elim) (fun _ _ => rfl) (fun _ _ => rfl) rfl (fun f a b => y18 f (by omega) (by omega)) (fun x _ => r x), hH.cg (FQ.refl As Bs (fun _ => False) n8) (fun _ h => h.elim) ⟨rfl, rfl⟩ rfl ⟨y18 148 (by decide) (by decide), y18 149 (by decide) (by decide)⟩ (fun x _ _ => r x), hP.fq (FQ.refl As Bs (fun _ => False) n8) hJ.2.1.2.2.1.2.1 (fun h => h.elim) (r 1)⟩,
        h2.cg (fun _ _ => rfl) (fun _ _ _ => rfl) (fun f a b => y18 f (by omega) (by omega)), h3, ⟨h4.cg rfl rfl rfl (fun _ _ _ => rfl) (fun f a b => y18 f (by omega) (by omega)), h4'.liv h4 (fun f hf => y18 f (by omega) (by omega)) liv c69⟩, h5.cg rfl rfl (fun f a b => y18 f (by omega) (by omega)), ?_, h7.liv rfl (y18 150 (by decide) (by decide)) (y18 151 (by decide) (by decide)) liv c69, ?_⟩
      · unfold JCt at *
        rw [y18 155 (by decide) (by decide), y18 156 (by decide) (by decide), y18 157 (by decide) (by decide)]; exact h6
      · unfold gB at *
        rw [y18 69 (by decide) (by decide), y18 35 (by decide) (by decide), y18 155 (by decide) (by decide), y18 156 (by decide) (by decide), y18 157 (by decide) (by decide), y18 167 (by decide) (by decide)]; exact h8
    obtain ⟨κ, N, o, e, p, _, hT, hNT, _, _, _, _, hgB⟩ := id j18
    obtain ⟨n17, mR, N', o', e', p', x1, x2, x3, x4, x5, x6, x7, x8, x9, x10, x11, x12, x13⟩ := readPage_both (n := n8) (m := m18) (a := n8 4 605 1) hB8 ⟨hb5.2.2.1, by rw [e76']; have := hb5.2.2.2.1.2.2; rw [r605] at this ⊢; omega, fun j a b => by rw [r605, d605, e75 j a (by omega)]; exact ht.2.2 j a (by omega)⟩ (by omega) hb5.2.1 (fun b u w z => by have := hB8.2.1 b 605 u (by omega) (by decide) (by decide) z; omega) (fun j a b => by rw [e75 j a (by omega)]; exact c3 j a (by omega)) ⟨hT.2.2.2, by have := hgB.1; omega, hT.1.1.2.2.2.2.2.2.2.2, by have := hgB.2.1; omega⟩ hT.1.1.2.2.2.2.2.2.2.1 hT.1.2.2.1.1 hNT
    rw [e76'] at x1 x11
    generalize hm22 : yw (yw (yw (yw mR 150 0 (-1)) 166 0 0) 126 0 0) 153 0 1 = m22
    have y22 : ∀ g, g ≠ 126 → g ≠ 150 → g ≠ 153 → g ≠ 166 → m22 g = mR g := fun g u1 u2 u3 u4 => by rw [← hm22, yw_nF u3, yw_nF u1, yw_nF u4, yw_nF u2]
    have v22 : m22 150 0 = -1 ∧ m22 166 0 = 0 ∧ m22 126 0 = 0 ∧ m22 153 0 = 1 := by
      rw [← hm22]
      refine ⟨?_, ?_, ?_, yw_eq⟩
      · rw [yw_nF (by decide), yw_nF (by decide), yw_nF (by decide), yw_eq]
      · rw [yw_nF (by decide), yw_nF (by decide), yw_eq]
      · rw [yw_nF (by decide), yw_eq]
    have eNP : N_Y_newPage m18 = some m22 := by
      unfold N_Y_newPage N_Y_changed st
      rw [x2]
      show some (yw (yw (yw (yw mR 150 0 (-1)) 166 0 0) 126 0 0) 153 0 1) = _
      rw [hm22]
    generalize hmg : yw m22 152 0 1 = mg
    have yg : ∀ g, g ≠ 152 → mg g = m22 g := fun g hg => by rw [← hmg, yw_nF hg]
    have jp := j18.page x3 x4 x5 x6 x7 x8 x9 x10 (m' := mg) (fun g hg => by
      simp only [List.mem_cons, List.not_mem_nil, or_false, not_or] at hg
      rw [yg g hg.2.2.1, y22 g hg.1 hg.2.1 hg.2.2.2.1 hg.2.2.2.2]) (by rw [yg 150 (by decide)]; exact v22.1) (by rw [yg 166 (by decide)]; exact v22.2.1)
    obtain ⟨n22, N9, o9, e9, p9, z1, z2, z3, z4, z5', z6, z7, z8⟩ := startPage_c (n := n17) (m := mg) jp (by omega)
    have yR : ∀ g, ¬ (45 ≤ g ∧ g ≤ 88) → mR g = m18 g := x8
    have eA : ∀ g, ¬ (45 ≤ g ∧ g ≤ 88) → g ≠ 126 → g ≠ 150 → g ≠ 152 → g ≠ 153 → g ≠ 166 → mg g = m10 g := fun g u u1 u2 u3 u4 u5 => by rw [yg g u3, y22 g u1 u2 u4 u5, yR g u, y18 g (by omega) (by omega)]
    have hWEN : WEN As Bs A B (G + 2100) n22 mg := by
      refine ⟨z2, ?_, ⟨?_, ?_⟩, ?_, ⟨?_, ?_⟩, ⟨z5'.2.2.1, z5'.2.2.2.1, z5'.2.2.2.2.1, z5'.2.2.2.2.2⟩, ⟨N9, o9, e9, p9, z3, z4⟩, ?_, ?_⟩
      · unfold BUD at *
        rw [z7 9 (by decide), x7.1 0 (by decide), eA 158 (by decide) (by decide) (by decide) (by decide) (by decide) (by decide), eA 154 (by decide) (by decide) (by decide) (by decide) (by decide) (by decide)]; exact b4
      · rw [z7 17 (by decide), x7.1 0 (by decide)]; exact b3.2.1.1
      · rw [z8, x7.1 6 (by decide)]; exact b3.2.1.2
      · left; rw [eA 163 (by decide) (by decide) (by decide) (by decide) (by decide) (by decide)]; exact b6.2.2.2.1
      · rw [← hmg, yw_eq]
      · rw [yg 153 (by decide)]; exact v22.2.2.2
      · rw [wtS_cg (m := mR) (by rw [yg 45 (by decide), y22 45 (by decide) (by decide) (by decide) (by decide)]) (fun g hg => by rw [yg g (by omega), y22 g (by omega) (by omega) (by omega) (by omega)])]; omega
      · rw [yg 46 (by decide), y22 46 (by decide) (by decide) (by decide) (by decide)]; exact x13
    have e158 : mg 158 0 = 0 := by rw [eA 158 (by decide) (by decide) (by decide) (by decide) (by decide) (by decide)]; exact b6.2.2.2.2
    obtain ⟨n27, m26, s1, s2, s3, s4, s5⟩ := settle_fin (.inr hWEN) (c := 0) ⟨Int.le_refl _, by omega⟩ (by omega)
    have eS : N_Y_settle m22 = some m26 := by rw [← y_settle152 (m := m22) (by rw [v22.2.2.2]; decide), hmg]; exact s2
    have fc1 : FC n8 n17 m10 mg := by
      refine ⟨⟨fun K c => x7.1 K (by simp only [List.mem_cons, List.not_mem_nil, or_false, not_or] at c ⊢; omega), FS.frr x7 hB8 (fun x _ h => .inr (.inl h)), fun s _ => by rw [x7.1 0 (by decide)]⟩, fun g hg => eA g (by omega) (by omega) (by omega) (by omega) (by omega) (by omega), .inl x12, .inl (by rw [yg 126 (by decide)]; exact v22.2.2.1)⟩
    have fcE : FC n n27 m5 m26 := ((b7.trans fc1).trans z6).trans s3
    obtain ⟨n3, k1, k2⟩ := tape_fin (r := n27 10 0 5) (s4.ci.mono (G' := G + 470000) (by omega)) (O5.fc fcE) (by rw [fcE.2.1 1 (by omega)]; exact m1) (z5.trans fcE.fz)
    have e68 : n27 10 0 5 = m26 68 0 := by
      obtain ⟨_, _, _, _, _, _, hT', _⟩ := s4.1
      rw [hT'.1.1.2.2.2.2.2.1, hT'.1.1.2.2.2.2.2.2.1]
    refine ⟨n27 10 0 5, n3, m26, ?_, ?_, k2⟩
    · unfold N_H_page
      rw [c1]
      simp only [Option.bind_some]
      rw [if_pos trivial, b1]
      simp only [Option.bind_some]
      unfold nn
      rw [if_pos hb5.2.1.1, show n8 4 605 2 = m5 3 0 by rw [r605]; exact hsz, x1]
      simp only [Option.bind_some]
      rw [z1]
      simp only [Option.bind_some]
      have eS' : N_Acts_settle n22 = some n27 := by
        have : N_Acts_settle n22 = stl (NL_Acts_settle_2 0 n22) := rfl
        rw [this]; exact s1
      rw [eS']
      simp only [Option.bind_some]
      exact k1
    · unfold N_Y_page
      rw [c2]
      simp only [Option.bind_some, u2]
      rw [if_pos (by decide), b2]
      simp only [Option.bind_some]
      unfold st
      dsimp only
      rw [hm15, ec]
      simp only [Option.bind_some]
      rw [eNP]
      simp only [Option.bind_some]
      rw [eS]
      simp only [Option.bind_some]
      rw [e68]
end O5
