/-! A CALL ASKS FOR THE LAYOUT: both programs have it, whoever had it before -/
section YO
variable {n n' n1 n'' : NS} {m m' m0 : YS} {A B G N N' a b c x y q s k j r w : Int} {o e p o' e' p' : Int → Int} {As Bs : Int → Prop}
theorem LYA.cm (h : LYA n m) (hm : ∀ f, 45 ≤ f → f ≤ 63 → m' f = m f) : LYA n m' := fun z => by
  obtain ⟨N, o, e, p, g1, g2⟩ := h z
  exact ⟨N, o, e, p, by rw [hm 49 (by decide) (by decide), hm 50 (by decide) (by decide), hm 52 (by decide) (by decide)]; exact g1, fun m0 h0 => g2 m0 (fun f x y => (h0 f x y).trans (hm f x y))⟩
theorem LYB.cm (h : LYB n m) (hm : ∀ f, 45 ≤ f → f ≤ 63 → m' f = m f) (h106 : m' 106 0 = m 106 0) : LYB n m' := fun z => by
  obtain ⟨a1, a2, N, o, e, p, g⟩ := h z
  exact ⟨a1, a2, N, o, e, p, fun m0 h0 h1 h2 => g m0 (fun f x y => (h0 f x y).trans (hm f x y)) (h1.trans h106) h2⟩
/-- the layout, in both, and what is known then -/
theorem lay_call (hC : CI As Bs A B G n m) (hH : SHc n) (hI : LAYI n m) : ∃ n1 n' m' N o e p o2 e2 p2, N_Sheet_refresh n = some n1 ∧ N_Layout_refresh n1 = some n' ∧ N_Y_lay m = some m' ∧ (CI As Bs A B G n1 m' ∧ CI As Bs A B G n' m') ∧ (SHc n1 ∧ SHc n') ∧ (LAYI n1 m' ∧ LAYI n' m') ∧ ((LAYI n m' ∧ CI As Bs A B G n m') ∧ (LAYI n' m ∧ CI As Bs A B G n' m)) ∧ (JTr n' m' N o e p ∧ JTr n1 m' N o e p) ∧ LSt n' N o e ∧ LAYD N o2 e2 p2 n' m' ∧ (∀ k, 0 ≤ k → k < N → o2 k = o k) ∧ (LKs n1 m' N o ∧ n1 9 0 13 = m' 89 0) ∧ FZl n n1 m m' ∧ FZl n n' m m' := by
  have hC0 := hC
  have hB := hC.1.bi
  obtain ⟨hA, hBv, hR, hS, hSc⟩ := hI
  obtain ⟨⟨κ, N, o, e, p, hNt, hTr, hrest⟩, hz⟩ := hC
  have hT := hTr.1
  have hJ := hTr.2.1
  have hG := hT.1.1
  have hN := hG.N1
  have h17 : m 46 0 ≠ 17 := by
    have g := (hTr.liv (Int.le_refl 0) (by omega)).2
    rw [hG.o0] at g
    exact hz.2.2 g
  obtain ⟨n1, s1, ⟨hB1, hT1, hH1, hv1⟩, hF1, hs1, hcas⟩ := sheet_call hB hT hJ h17 hH hA
  have k1 : ∀ K, K ∉ [7, 9, 10, 22, 32, 33, 34, 35, 36, 37, 38, 39, 40, 41] → n1 K = n K := hF1.1
  have e106 : n1 10 0 6 = n 10 0 6 := hF1.2.2 6 (by decide) (by decide)
  have hC1 : CI As Bs A B G n1 m := hC0.sh hT1 hJ hB1 hF1
  have hA1 : LYA n1 m := fun _ => ⟨N, o, e, p, hG, hcas⟩
  have hW1 : WL1 n1 ∧ S18 n1 := by
    refine ⟨?_, fun a x y => by rw [k1 3 (by decide)]; exact hS.1.2 a x y⟩
    have := hS.1.1
    unfold WL1 WLc at *
    rw [k1 5 (by decide), k1 92 (by decide), k1 93 (by decide)]; exact this
  have hSc1 : JSc n1 m := by unfold JSc at *; rw [k1 5 (by decide)]; exact hSc
  have hS1 : LYS n1 := ⟨hW1, by rw [k1 5 (by decide), e106]; exact hS.2.1, by rw [hv1]; exact Int.le_refl _⟩
  -- the class's layout
  obtain ⟨n', N2, o2, e2, p2, r1, hC', hH', hB', hT', hL', hst, hFl, hrun, h41⟩ : ∃ n' N2 o2 e2 p2, N_Layout_refresh n1 = some n' ∧ CI As Bs A B G n' m ∧ SHc n' ∧ BI A B n' ∧ JT n' m N o e p ∧ LSt n' N o e ∧ (n' 5 0 4 = n' 10 0 6 ∧ n' 10 0 4 = n' 10 0 6 ∧ n' 9 0 14 = n' 10 0 6) ∧ ((∀ K, K ∉ [3, 4, 5, 7, 10, 22, 43, 90, 91, 92, 93, 99] → n' K = n1 K) ∧ FS (fun x => x = 608) n1 n' ∧ n' 10 0 6 = n1 10 0 6 ∧ n' 5 0 3 = n1 5 0 3 ∧ ∀ v s, s ≠ 8 → s ≠ 9 → n' 7 v s = n1 7 v s) ∧ (∀ m0, SMf m m0 → m0 106 0 = m 106 0 → m0 126 0 = 0 → ∃ m0', N_Y_lay m0 = some m0' ∧ LAYD N2 o2 e2 p2 n' m0' ∧ YFr m0 m0') ∧ (n 5 0 4 = n 10 0 6 → n1 = n) := by
    by_cases hl : n1 5 0 4 = n1 10 0 6
    · have hl0 : n 5 0 4 = n 10 0 6 := by rw [k1 5 (by decide), e106] at hl; exact hl
      obtain ⟨a1, a2, N2, o2, e2, p2, a3⟩ := hBv hl0
      have en := hs1 a1
      rw [en] at hC1 hH1 hB1 hT1 ⊢
      refine ⟨n, N2, o2, e2, p2, ?_, hC1, hH1, hB1, hT1, hT1.2.2.1.2 a2, ⟨hl0, a2, a1⟩, ⟨fun _ _ => rfl, FS.refl _ _, rfl, rfl, fun _ _ _ _ => rfl⟩, a3, fun _ => rfl⟩
      unfold N_Layout_refresh
      rw [if_pos hl0]
    · obtain ⟨nA, n', q1, q2, q3, q4, q5, q6, q7, q8, q9⟩ := lay_comp hB1 hT1 hJ h17 hW1 hSc1 hcas hl
      obtain ⟨n13, hn13⟩ : ∃ n13, n13 = nw (nw n1 5 0 4 (n1 10 0 6)) 5 0 6 0 := ⟨_, rfl⟩
      rw [← hn13] at q7
      have k13 : ∀ K, K ≠ 5 → n13 K = n1 K := fun K hK => by rw [hn13, nw_nK hK, nw_nK hK]
      have s13 : ∀ s, s ≠ 4 → s ≠ 6 → n13 5 0 s = n1 5 0 s := fun s x y => by rw [hn13, nw_ns y, nw_ns x]
      have hB13 : BI A B n13 := hB1.cg (k13 4 (by decide)) ⟨s13 5 (by decide) (by decide), s13 9 (by decide) (by decide)⟩ (k13 90 (by decide)) (k13 91 (by decide)) (k13 92 (by decide)) (k13 93 (by decide))
      have hC13 : CI As Bs A B G n13 m := hC1.ko hB13 (fun K hK => k13 K (by intro z; rw [z] at hK; exact absurd hK (by decide))) (fun _ _ => rfl)
      have hCA : CI As Bs A B G nA m := ⟨(hC13.1.fl q3 hJ q4 q7).1, by rw [q7.1 0 (by decide) (by decide) (by decide), q7.1 6 (by decide) (by decide) (by decide)]; exact hC13.2.1, hC13.2.2⟩
      have hC' : CI As Bs A B G n' m := hCA.ly q2 q8 (fun _ _ => rfl)
      have kA : ∀ K, K ≠ 5 → K ≠ 7 → K ≠ 10 → K ≠ 22 → nA K = n1 K := fun K x y z w => (q7.1 K y z w).trans (k13 K x)
      have kk : ∀ K, K ∉ [3, 4, 5, 7, 10, 22, 43, 90, 91, 92, 93, 99] → n' K = n1 K := fun K hK => by
        simp only [List.mem_cons, List.not_mem_nil, or_false, not_or] at hK
        rw [q8.1 K (by simp only [List.mem_cons, List.not_mem_nil, or_false, not_or]; omega), kA K (by omega) (by omega) (by omega) (by omega)]
      have h10 : n' 10 0 6 = n1 10 0 6 := by rw [q8.1 10 (by decide), q7.2.2 6 (by decide) (by decide), k13 10 (by decide)]
      have hTn : JT n' m N o e p := by
        have fs := FS.ly q8 q4
        have hTrA : JTr nA m N o e p := by
          refine ⟨q3, hJ, ?_, ?_⟩
          · have g := hTr.2.2.1
            unfold JF at *
            rw [kA 8 (by decide) (by decide) (by decide) (by decide), kA 28 (by decide) (by decide) (by decide) (by decide), kA 29 (by decide) (by decide) (by decide) (by decide), k1 8 (by decide), k1 28 (by decide), k1 29 (by decide)]; exact g
          · rw [q7.2.2 6 (by decide) (by decide), k13 10 (by decide), e106]; exact hTr.2.2.2
        exact (hTrA.cg (fun K hK => q8.1 K (by simp only [List.mem_cons, List.not_mem_nil, or_false, not_or]; omega)) (fun b x y => fs.bt ⟨x, by omega⟩ (by omega)) (fun _ _ _ => rfl)).1
      refine ⟨n', N, o, e, p, q1, hC', by unfold SHc at *; rw [kk 9 (by decide)]; exact hH1, q2, hTn, q5, ⟨q6.1, q6.2, by rw [kk 9 (by decide), h10]; exact hv1⟩, ⟨kk, fun b x y z => ?_, h10, ?_, fun v s x y => by rw [q8.1 7 (by decide), q7.2.1 v s x y, k13 7 (by decide)]⟩, q9, fun z => absurd (by rw [k1 5 (by decide), e106]; exact z) hl⟩
      · have g := FS.ly q8 q4 b x y z
        rw [kA 4 (by decide) (by decide) (by decide) (by decide), kA 99 (by decide) (by decide) (by decide) (by decide)] at g
        exact g
      · rw [q8.2.2.2.2 3 (by decide), q7.1 5 (by decide) (by decide) (by decide), s13 3 (by decide) (by decide)]
  -- the reference's
  obtain ⟨m', t1, t2, t3, t4⟩ : ∃ m', N_Y_lay m = some m' ∧ LAYD N2 o2 e2 p2 n' m' ∧ (∀ f, (f < 89 ∨ f = 106 ∨ 145 < f) → m' f = m f) ∧ LYR m' := by
    by_cases hv : m 126 0 = 0
    · obtain ⟨m', g1, g2, g3⟩ := hrun m (fun _ _ _ => rfl) rfl hv
      exact ⟨m', g1, g2, g3.1, fun _ => ⟨m, m', fun f x y => (g3.1 f (by omega)).symm, by rw [g3.1 106 (by omega)], hv, g1, fun _ _ => rfl⟩⟩
    · obtain ⟨m0, m1, a1, a2, a3, a4, a5⟩ := hR hv
      obtain ⟨m1', g1, g2, g3⟩ := hrun m0 a1 a2 a3
      rw [a4] at g1
      rw [← Option.some.inj g1] at g2 g3
      refine ⟨m, by rw [y_lay_eq, if_neg hv], g2.cm (fun f hf => ?_), fun _ _ => rfl, hR⟩
      by_cases z : f = 89 ∨ (105 ≤ f ∧ f ≤ 125)
      · exact a5 f z
      · rw [g3.1 f (by omega), a1 f (by omega) (by omega)]
  have hm' : ∀ f, 45 ≤ f → f ≤ 63 → m' f = m f := fun f x y => t3 f (by omega)
  have hma : ∀ f, (6 ≤ f ∧ f ≤ 72) ∨ (148 ≤ f ∧ f ≤ 151) ∨ (155 ≤ f ∧ f ≤ 157) ∨ (166 ≤ f ∧ f ≤ 178) → m' f = m f := fun f hf => t3 f (by omega)
  have c1 : CI As Bs A B G n1 m' := hC1.ko hB1 (fun _ _ => rfl) hma
  have c2 : CI As Bs A B G n' m' := hC'.ko hB' (fun _ _ => rfl) hma
  have hTm : ∀ n2, BI A B n2 → JT n2 m N o e p → JT n2 m' N o e p := fun n2 b t => t.fb b (FB.refl (fun _ => False) n2) (fun x hx => hx.elim) (fun f x y => t3 f (by omega))
  have hJm : JP m' N o p := fun k x y => by rw [t3 46 (by omega)]; exact hJ k x y
  have hTY : TY m' N o e p := by
    unfold TY
    rw [t3 49 (by omega), t3 50 (by omega), t3 52 (by omega)]; exact hG
  obtain ⟨u1, u2⟩ := TY.uniq (m := m') hTY t2.1.1
  rw [← u1] at t2
  have hLn : LYB n' m := fun _ => ⟨hst.2.2, hst.2.1, N2, o2, e2, p2, hrun⟩
  have hAn : LYA n' m := fun _ => ⟨N, o, e, p, hG, fun m0 hm0 => by
    obtain ⟨m0', d1, d2, d3, d4⟩ := hcas m0 hm0
    exact ⟨m0', d1, d2.cg (hFl.1 41 (by decide)) rfl rfl, by rw [hFl.1 9 (by decide)]; exact d3, d4⟩⟩
  have hL1 : LYB n1 m := fun z => by
    have hl0 : n 5 0 4 = n 10 0 6 := by rw [k1 5 (by decide), e106] at z; exact z
    rw [h41 hl0] at z ⊢
    exact hBv z
  have jF : ∀ n2, (∀ K, K = 8 ∨ K = 28 ∨ K = 29 → n2 K = n K) → JF n2 m' := fun n2 hk => by
    have g := hTr.2.2.1
    unfold JF at *
    rw [hk 8 (by omega), hk 28 (by omega), hk 29 (by omega), t3 70 (by omega), t3 71 (by omega), t3 72 (by omega)]; exact g
  have kn : ∀ K, K ∉ [3, 4, 5, 7, 9, 10, 22, 32, 33, 34, 35, 36, 37, 38, 39, 40, 41, 43, 90, 91, 92, 93, 99] → n' K = n K := fun K hK => by
    simp only [List.mem_cons, List.not_mem_nil, or_false, not_or] at hK
    rw [hFl.1 K (by simp only [List.mem_cons, List.not_mem_nil, or_false, not_or]; omega), k1 K (by simp only [List.mem_cons, List.not_mem_nil, or_false, not_or]; omega)]
  have hSc' : JSc n' m := by unfold JSc at *; rw [hFl.2.2.2.1]; exact hSc1
  have hSc0 : JSc n m' := by unfold JSc at *; rw [t3 106 (by omega)]; exact hSc
  have hx1 : LAYI n m' := ⟨hA.cm hm', hBv.cm hm' (by rw [t3 106 (by omega)]), t4, hS, hSc0⟩
  have hx2 : CI As Bs A B G n m' := hC0.ko hB (fun _ _ => rfl) hma
  have hx3 : LAYI n' m := ⟨hAn, hLn, hR, ⟨t2.2.2.2.2.1, by rw [hst.1]; exact Int.le_refl _, by rw [hst.2.2]; exact Int.le_refl _⟩, hSc'⟩
  refine ⟨n1, n', m', N, o, e, p, o2, e2, p2, s1, r1, t1, ⟨c1, c2⟩, ⟨hH1, hH'⟩, ⟨⟨hA1.cm hm', hL1.cm hm' (by rw [t3 106 (by omega)]), t4, hS1, ?_⟩, ⟨hAn.cm hm', hLn.cm hm' (by rw [t3 106 (by omega)]), t4, ⟨t2.2.2.2.2.1, by rw [hst.1]; exact Int.le_refl _, by rw [hst.2.2]; exact Int.le_refl _⟩, ?_⟩⟩, ⟨⟨hx1, hx2⟩, ⟨hx3, hC'⟩⟩, ⟨⟨hTm n' hB' hT', hJm, jF n' (fun K hK => kn K (by simp only [List.mem_cons, List.not_mem_nil, or_false, not_or]; omega)), by rw [hFl.2.2.1, e106]; exact hTr.2.2.2⟩, ⟨hTm n1 hB1 hT1, hJm, jF n1 (fun K hK => k1 K (by simp only [List.mem_cons, List.not_mem_nil, or_false, not_or]; omega)), by rw [e106]; exact hTr.2.2.2⟩⟩, hL', t2, u2, ⟨?_, ?_⟩, ⟨fun K hK => k1 K (by simp only [List.mem_cons, List.not_mem_nil, or_false, not_or] at hK ⊢; omega), ?_, t3, hF1.2.1⟩, ⟨kn, ?_, t3, fun v s x y => (hFl.2.2.2.2 v s x y).trans (hF1.2.1 v s x y)⟩⟩
  · unfold JSc at *; rw [t3 106 (by omega)]; exact hSc1
  · unfold JSc at *; rw [t3 106 (by omega)]; exact hSc'
  · exact (t2.2.2.2.2.2.1.1.cg (hFl.1 41 (by decide)).symm rfl rfl).oc (fun k x y => (u2 k x y).symm)
  · rw [← hFl.1 9 (by decide)]; exact t2.2.2.2.2.2.1.2
  · exact FS.ks (k1 4 (by decide)) (k1 99 (by decide))
  · exact (FS.ks (k1 4 (by decide)) (k1 99 (by decide))).trans hFl.2.1
end YO
