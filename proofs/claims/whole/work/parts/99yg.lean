/-! THE WHOLE LAYOUT, in both -/
section YG
variable {n n' n'' : NS} {m m' m'' : YS} {A B N a b c x y q s E v u w t k j r i L I X h : Int} {o e p g : Int → Int}
theorem LKs.cg (hL : LKs n m N o) (e41 : n' 41 = n 41) (e105 : m' 105 = m 105) (e46 : m' 46 = m 46) : LKs n' m' N o := fun k x y z => by
  have g := hL k x y (by rw [e46] at z; exact z)
  unfold LKv at *
  rw [e41, e105]; exact g
/-- places of words, and the end -/
theorem S3.fin (hS : S3 A B N o e p N n m) (hW : WL1 n) (hLk : LKs n m N o) (h89 : n 9 0 13 = m 89 0) (h3 : n 5 0 3 = m 106 0 ∧ 20 ≤ m 106 0 ∧ m 106 0 ≤ 96) (h0 : m 107 (o 0) = 1 ∨ m 107 (o 0) = 2) (hR : PRA N o n m) : ∃ m', NL_Y_lay_458 0 m = some m' ∧ LAYD N o e p n m' ∧ FY [121, 122] m m' := by
  obtain ⟨⟨hC, hB, hWc, h18⟩, ⟨c1, c2, c3⟩, a1, a2, _, _⟩ := hS
  have hG := hC.1
  have hN := hG.N1
  have hw : ∀ w, 0 ≤ w → w < m 117 0 → ∃ h, (0 ≤ h ∧ h < N) ∧ (0 ≤ m 118 w ∧ m 118 w < 120) ∧ m 109 (m 118 w) = o h ∧ (0 ≤ o h ∧ o h < 120) ∧ (n 3 (o h) 8 = m 105 (11 * o h + 4) + m 105 (11 * o h + 5) ∧ 0 ≤ n 3 (o h) 8 ∧ n 3 (o h) 8 ≤ 23) ∧ PLw n m (o h) w ∧ PLb n m (o h) h := fun w x y => by
    obtain ⟨r, r0, r1, r2, r3, r4⟩ := c3.1 w x (by rw [c2]; exact y)
    have hr1 : 1 ≤ r := by
      by_cases z : r = 0
      · rw [z] at r2; omega
      · omega
    obtain ⟨h, b1, b2, b3, b4⟩ := hC.hol hr1 r1 (by omega)
    have hd := ((hC.2.2.2.2.1 r r0 r1).tx r2).2.2.2.2.1 w r3 r4
    have hb := hG.oB (k := h) b1.1 (by omega)
    have hp := a2 r r0 r1 r1 r2 w r3 r4
    rw [b2.1] at hp
    exact ⟨h, ⟨b1.1, by omega⟩, hd.1.2.2.2.1, by rw [hd.2.1]; exact b2.1, hb, b4, hp, a1 h b1.1 (by omega) (by omega) (by omega)⟩
  have hW6 := hWc.2.2.1
  obtain ⟨m', r1, r2, _, r4⟩ := y_458 (m := m) (f1 := fun w => n 3 (m 109 (m 118 w)) 8) (by omega) (fun w x y => by
    obtain ⟨h, g0, g1, g2, g3, g4, g5, g6⟩ := hw w x y
    obtain ⟨_, g7, g8⟩ := g5
    obtain ⟨_, g9, g10⟩ := g6
    rw [g2]
    exact ⟨g1, g3, g4, by omega, g7, g8⟩) (m 117 0).toNat 0 m (by omega) (Int.le_refl _) (by omega) (fun _ _ _ => rfl) (fun _ _ => ⟨rfl, rfl⟩)
  have hf : FY [121, 122] m m' := fun f hf => by
    simp only [List.mem_cons, List.not_mem_nil, or_false, not_or] at hf
    exact r2 f hf.1 hf.2
  have hC' : CTX n m' N o e p (-1) := hC.mv (fun _ _ _ => rfl) (fun _ _ _ _ => rfl) (fun _ _ _ => rfl) (fun f hf' => hf f (by simp only [List.mem_cons, List.not_mem_nil, or_false, not_or] at hf' ⊢; omega))
  refine ⟨m', r1, ⟨⟨hC'.1, hC'.2.2.2.2.1, fun r x y => hC'.2.2.2.2.2.2 r (by omega) y⟩, ⟨by rw [hf 125 (by decide), hf 124 (by decide)]; exact c1, by rw [hf 117 (by decide)]; exact c2, c3.cg rfl (fun _ => rfl) (hf 107 (by decide)) (hf 116 (by decide))⟩, fun r x y z => ?_, fun w x y => ?_, ⟨hW, h18⟩, ⟨hLk.cg rfl (hf 105 (by decide)) (hf 46 (by decide)), by rw [hf 89 (by decide)]; exact h89⟩, by rw [hf 106 (by decide)]; exact h3, by rw [hf 107 (by decide)]; exact h0, fun w x y z => ?_⟩, hf⟩
  · rw [hf 107 (by decide)] at z
    have g := a1 r x y y z
    unfold PLb at *
    rw [hf 110 (by decide), hf 111 (by decide)]; exact g
  · rw [c2] at y
    obtain ⟨h, g0, g1, g2, g3, g4, g5, g6⟩ := hw w x y
    obtain ⟨g5', g7, g8⟩ := g5
    obtain ⟨_, g9, g10⟩ := g6
    have g := r4 w x y
    rw [g2] at g
    rw [g.1, g.2]
    omega
  · rw [c2] at y
    rw [hf 118 (by decide)] at z
    have g := r4 w x (by omega)
    have g' := r4 (w + 1) (by omega) y
    rw [← z] at g'
    obtain ⟨r, r0, r1', r2', r3, r4'⟩ := c3.1 w x (by rw [c2]; omega)
    obtain ⟨s, s0, s1, s2, s3, s4⟩ := c3.1 (w + 1) (by omega) (by rw [c2]; exact y)
    have hd := ((hC.2.2.2.2.1 r r0 r1').tx r2').2.2.2.2.1 w r3 r4'
    have hd' := ((hC.2.2.2.2.1 s s0 s1).tx s2).2.2.2.2.1 (w + 1) s3 s4
    have hrs := hG.inj (j := r) (k := s) r0 r1' s0 s1 (by rw [← hd.2.1, ← hd'.2.1]; exact z)
    rw [← hrs] at s4
    have hq := hR r r0 r1' r2' w r3 s4
    have es : ∀ w, szW m' w = szW m w := fun w => szW_cg (fun f hf' => hf f (by simp only [List.mem_cons, List.not_mem_nil, or_false, not_or]; omega))
    unfold PRr at *
    rw [es, es, g.1, g.2, g'.1, g'.2, hf 123 (by decide)]
    omega
/-- all of it -/
theorem lay_both (hT : JT n m N o e p) (hJ : JP m N o p) (hLk : LKs n m N o) (hB : BI A B n) (hW : WL1 n) (h18 : S18 n) (h3 : n 5 0 3 = m 106 0 ∧ 20 ≤ m 106 0 ∧ m 106 0 ≤ 96) (h17 : m 46 0 ≠ 17) (h89 : n 9 0 13 = m 89 0) (hne : n 5 0 4 ≠ n 10 0 6) :
    ∃ n1 n' m', N_Layout_refresh n = some n' ∧ yRest m = some m' ∧ LAYD N o e p n' m' ∧ BI A B n' ∧ JT n1 m N o e p ∧ BI A B n1 ∧ LSt n' N o e ∧ (n' 5 0 4 = n' 10 0 6 ∧ n' 10 0 4 = n' 10 0 6) ∧ FL (nw (nw n 5 0 4 (n 10 0 6)) 5 0 6 0) n1 ∧ FLo n1 n' ∧ (∀ f, (f < 107 ∨ f = 126 ∨ 145 < f) → m' f = m f) := by
  obtain ⟨n13, hn13⟩ : ∃ n13, n13 = nw (nw n 5 0 4 (n 10 0 6)) 5 0 6 0 := ⟨_, rfl⟩
  have k13 : ∀ K, K ≠ 5 → n13 K = n K := fun K hK => by rw [hn13, nw_nK hK, nw_nK hK]
  have s13 : ∀ s, s ≠ 4 → s ≠ 6 → n13 5 0 s = n 5 0 s := fun s x y => by rw [hn13, nw_ns y, nw_ns x]
  have t4 : n13 5 0 4 = n 10 0 6 := by rw [hn13, nw_ns (by decide), nw_eq]
  have t6 : n13 5 0 6 = 0 := by rw [hn13, nw_eq]
  have hT13 : JT n13 m N o e p := hT.ks (fun K hK => k13 K (by omega))
  have hB13 : BI A B n13 := hB.cg (k13 4 (by decide)) ⟨s13 5 (by decide) (by decide), s13 9 (by decide) (by decide)⟩ (k13 90 (by decide)) (k13 91 (by decide)) (k13 92 (by decide)) (k13 93 (by decide))
  obtain ⟨n18, b1, b2, b3, b4, b5⟩ := hT13.list hB13
  have b6 : n18 10 0 4 = n18 10 0 6 := by
    obtain ⟨n2, d1, _, d3, _⟩ := c_list hT13.1.TC hT13.2.2.1.2
    rw [b1] at d1
    rw [Option.some.inj d1]; exact d3
  have hG := hT.1.1
  have hN := hG.N1
  have kL : ∀ K, K ≠ 5 → K ≠ 7 → K ≠ 10 → K ≠ 22 → n18 K = n K := fun K x y z w => (b4.1 K y z w).trans (k13 K x)
  have k5 : n18 5 = n13 5 := b4.1 5 (by decide) (by decide) (by decide)
  obtain ⟨m16, hm16⟩ : ∃ m16, m16 = yw (yw m 117 0 0) 125 0 0 := ⟨_, rfl⟩
  have e16 : ∀ f, f ≠ 117 → f ≠ 125 → m16 f = m f := fun f x y => by rw [hm16, yw_nF y, yw_nF x]
  have e117 : m16 117 0 = 0 := by rw [hm16, yw_nF (by decide), yw_eq]
  have e125 : m16 125 0 = 0 := by rw [hm16, yw_eq]
  have hT18 : JT n18 m16 N o e p := b2.fb b5 (FB.refl (fun _ => False) n18) (fun x hx => hx.elim) (fun f x y => e16 f (by omega) (by omega))
  have hW18 : WL1 n18 := by
    unfold WL1 WLc at *
    rw [k5, s13 5 (by decide) (by decide), s13 9 (by decide) (by decide), t6, kL 92 (by decide) (by decide) (by decide) (by decide), kL 93 (by decide) (by decide) (by decide) (by decide)]
    omega
  have hM : M1 A B N o e p 0 n18 m16 := by
    refine ⟨⟨hT18, b3, ?_, hLk.cg (kL 41 (by decide) (by decide) (by decide) (by decide)) (e16 105 (by decide) (by decide)) (e16 46 (by decide) (by decide)), b5, hW18⟩, fun r x y => by omega, fun r x y => by omega, ⟨fun r x y => by omega, fun z => by omega⟩, ⟨e125, fun r x y => by omega⟩, by rw [k5, t6, e117]; omega, ⟨fun r r' x y z => by omega, fun w x y => by rw [k5, t6] at y; omega, fun r x y => by omega⟩, by rw [k5, s13 3 (by decide) (by decide), e16 106 (by decide) (by decide)]; exact h3, fun a x y => by rw [kL 3 (by decide) (by decide) (by decide) (by decide)]; exact h18 a x y⟩
    unfold JP at *
    rw [e16 46 (by decide) (by decide)]; exact hJ
  obtain ⟨n21, m19, r1, r2, r3, r4, r5⟩ := meas_loop (m := m16) (by rw [e16 46 (by decide) (by decide)]; exact h17) N.toNat 0 n18 m16 (by omega) (Int.le_refl _) (by omega) hM rfl
  rw [if_pos (show (0 : Int) < N by omega), hG.o0] at r2
  have hM' := r3
  obtain ⟨⟨hT21, hS21, hJ21, hL21, hB21, hW21⟩, _, _, x3, x4, x5, x6, x7⟩ := r3
  obtain ⟨n27, m24, q1, q2, q3, q4, q5⟩ := p2_loop (A := A) (B := B) (N := N) (o := o) (e := e) (p := p) N.toNat (N - 1) n21 m19 (by omega) (by omega) (by omega) hM'.p2 x4.2
  have f24 : ∀ f, f ∉ [110, 111, 113, 114, 115, 121, 122, 127, 128, 129, 130, 131, 132, 133, 134, 135, 136, 137, 138, 139, 140, 141, 142, 143, 144, 145] → m24 f = m19 f := q5
  have s27 : ∀ s, s < 8 → n27 5 0 s = n21 5 0 s := q4.2.1.1
  have z27 : ∀ a s, s = 18 ∨ s = 19 → n27 3 a s = n21 3 a s := fun a s hs => q4.2.1.2 a s (by omega) (by omega) (by omega) (by omega)
  have hcov : COV n27 m24 N o := COV.cg (n := n21) (m := m19) ⟨x6.2.1, x6.2.2⟩ (s27 6 (by decide)) (fun a => z27 a 19 (.inr rfl)) (f24 107 (by decide)) (f24 116 (by decide))
  have hS3 := q3.s3 (fun a x y => by rw [z27 a 18 (.inl rfl)]; exact x7.2 a x y) (by rw [f24 125 (by decide), f24 124 (by decide)]; exact x4) (by rw [s27 6 (by decide), f24 117 (by decide)]; exact x5.1) hcov (by rw [f24 107 (by decide)]; exact (x3.2 (by omega)).2)
  obtain ⟨m34, hm34⟩ : ∃ m34, m34 = yw (yw m24 110 0 0) 111 0 0 := ⟨_, rfl⟩
  rw [← hm34] at hS3
  have e34 : ∀ f, f ≠ 110 → f ≠ 111 → m34 f = m24 f := fun f x y => by rw [hm34, yw_nF y, yw_nF x]
  obtain ⟨n30, m37, p1, p2, p3, p4, p5⟩ := mv_both (A := A) (B := B) (N := N) (o := o) (e := e) (p := p) N.toNat 1 n27 m34 (by omega) (Int.le_refl _) (by omega) hS3
  have f37 : ∀ f, f ∉ [110, 111] → m37 f = m34 f := p5
  have t92 : n21 92 0 (n21 5 0 5) = 0 ∧ n21 92 0 (n21 5 0 9) = 0 := hW21.1.1
  have hr21 := hB21.2.2.2.1
  have hW27 : WL1 n27 := by
    refine ⟨q3.2.2.2.2.1, ?_⟩
    rw [s27 5 (by decide), (q4.2.2.2.1 _ hr21.2.1).2]; exact hW21.2
  have hW30 : WL1 n30 := by
    have := hW27
    unfold WL1 WLc at *
    rw [p4.1 5 (by decide) (by decide), p4.1 92 (by decide) (by decide), p4.1 93 (by decide) (by decide)]; exact this
  have e41 : n30 41 = n21 41 := (p4.1 41 (by decide) (by decide)).trans (q4.1 41 (by decide))
  have f37' : ∀ f, f = 46 ∨ f = 89 ∨ f = 105 ∨ f = 106 ∨ f = 107 → m37 f = m19 f := fun f hf => by
    rw [f37 f (by simp only [List.mem_cons, List.not_mem_nil, or_false, not_or]; omega), e34 f (by omega) (by omega), f24 f (by simp only [List.mem_cons, List.not_mem_nil, or_false, not_or]; omega)]
  have e9 : n30 9 = n 9 := by rw [p4.1 9 (by decide) (by decide), q4.1 9 (by decide), r4.1 9 (by decide), kL 9 (by decide) (by decide) (by decide) (by decide)]
  have f19 : ∀ f, f ∉ [107, 108, 109, 112, 113, 116, 117, 118, 119, 120, 123, 124, 125] → m19 f = m16 f := r5
  have hR37 : PRA N o n30 m37 := (q3.pra (by rw [f24 107 (by decide)]; exact (x3.2 (by omega)).2)).cg (fun a => p4.2.1 a 19 (by decide) (by decide)) (fun f hf => by
    simp only [List.mem_cons, List.not_mem_nil, or_false] at hf
    rw [f37 f (by simp only [List.mem_cons, List.not_mem_nil, or_false, not_or]; omega), e34 f (by omega) (by omega)])
  obtain ⟨m40, u1, u2, u3⟩ := p3.fin hW30 (hL21.cg e41 (f37' 105 (by omega)) (f37' 46 (by omega))) (by rw [e9, f37' 89 (by omega), f19 89 (by decide), e16 89 (by decide) (by decide)]; exact h89) (by rw [p4.1 5 (by decide) (by decide), s27 3 (by decide), f37' 106 (by omega)]; exact x7.1) (by rw [f37' 107 (by omega)]; exact (x3.2 (by omega)).2) hR37
  have f40 : ∀ f, f ∉ [121, 122] → m40 f = m37 f := u3
  have h608 := (b5.1 608 (by decide) (by decide)).2.1.2
  have h608' := (hB21.1 608 (by decide) (by decide)).2.1.2
  have hB27 : BI A B n27 := q3.2.2.2.1
  have l1 : FLo n18 n21 := r4.fl hW18.1.1.1
  have l2 : FLo n21 n27 := q4.fl t92.1 t92.2 (q4.1 4 (by decide))
  have l3 : FLo n27 n30 := p4.fl hW27.1.1.1
  have hFL : FLo n18 n30 := (l1.trans l2 h608).trans l3 h608
  have hS30 : LSt n30 N o e := by
    unfold LSt at *
    rw [hFL.1 10 (by decide), hFL.1 22 (by decide), hFL.1 7 (by decide)]; exact b3
  refine ⟨n18, n30, m40, ?_, ?_, u2, p3.1.2.1, b2, b5, hS30, ?_, by rw [← hn13]; exact b4, hFL, fun f hf => ?_⟩
  · unfold N_Layout_refresh st
    dsimp only
    rw [if_neg hne, ← hn13, b1]
    simp only [Option.bind_some]
    rw [r1]
    simp only [Option.bind_some]
    rw [hS21.1, ck_e _ (by omega), q1]
    simp only [Option.bind_some]
    rw [p1]
    rfl
  · unfold yRest st
    dsimp only
    rw [← hm16, r2]
    simp only [Option.bind_some]
    rw [x4.1, ck_e _ (by omega), q2]
    simp only [Option.bind_some]
    rw [ix_e _ (by decide), ix_e _ (by decide), ← hm34, p2]
    simp only [Option.bind_some]
    rw [u1]
    rfl
  · rw [hFL.2.2.2.2 4 (by decide), hFL.1 10 (by decide), k5, t4]
    exact ⟨by rw [b4.2.2 6 (by decide) (by decide), k13 10 (by decide)], b6⟩
  · rw [f40 f (by simp only [List.mem_cons, List.not_mem_nil, or_false, not_or]; omega), f37 f (by simp only [List.mem_cons, List.not_mem_nil, or_false, not_or]; omega), e34 f (by omega) (by omega), f24 f (by simp only [List.mem_cons, List.not_mem_nil, or_false, not_or]; omega), f19 f (by simp only [List.mem_cons, List.not_mem_nil, or_false, not_or]; omega), e16 f (by omega) (by omega)]
end YG
