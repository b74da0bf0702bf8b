/-! STEPS: put, wait -/
section N1
variable {n n' n'' : NS} {m m' m'' : YS} {A B N N' k v b δ G G' fr to d L q : Int} {o e p o' e' p' : Int → Int} {As Bs W S : Int → Prop} {κ κ' : Int → Int}
theorem JA.store (h : JA As Bs A B δ G n m) (hs : JSt n' m') (hK : ∀ K, K ≠ 26 → K ≠ 6 → n' K = n K) (h6 : ∀ s, s ≠ 8 → n' 6 0 s = n 6 0 s) (hy : FY [174, 175, 176, 177, 178] m m') : JA As Bs A B δ G n' m' ∧ FA n n' m m' := by
  obtain ⟨κ, N, o, e, p, ⟨hJ, hH, hP⟩, h2, h3, ⟨h4, h4'⟩, h5, h6', h7, h8⟩ := h
  have r : ∀ r, RwE m m' r := fun r => RwE.of (hy 6 (by decide)) (hy 7 (by decide)) (hy 8 (by decide))
  have ym : ∀ f, f < 174 → m' f = m f := fun f hf => hy f (by simp only [List.mem_cons, List.not_mem_nil, or_false, not_or]; omega)
  have fq : FQ As Bs (fun _ => False) n n' := FQ.ks (fun K hK' => hK K (by omega) (by omega))
  have hS : ∀ S : Int → Prop, FS S n n' := fun S => FS.ks (hK 4 (by decide) (by decide)) (hK 99 (by decide) (by decide))
  have hB' : BI A B n' := hJ.1.cg (hK 4 (by decide) (by decide)) (by rw [hK 5 (by decide) (by decide)]; exact ⟨rfl, rfl⟩) (hK 90 (by decide) (by decide)) (hK 91 (by decide) (by decide)) (hK 92 (by decide) (by decide)) (hK 93 (by decide) (by decide))
  have liv : LIV m m' := LIV.of (ym 45 (by decide)) (ym 46 (by decide)) (ym 55 (by decide))
  have c69 : m 69 0 ≤ m' 69 0 := by rw [ym 69 (by decide)]; exact Int.le_refl _
  have e0 : n' 0 = n 0 := hK 0 (by decide) (by decide)
  have e10 : n' 10 = n 10 := hK 10 (by decide) (by decide)
  refine ⟨⟨κ, N, o, e, p, ⟨hJ.cg hB' fq (FQ7.ks (hK 99 (by decide) (by decide))) (fun _ h => h.elim) (fun K hK' => hK K (by omega) (by omega)) (fun s hs => h6 s (by omega)) ((hS (fun _ => False)).bt (by omega) (fun h => h)) (fun f a b => ym f (by omega)) (fun x _ => r x), hH.cg fq (fun _ h => h.elim) ⟨h6 18 (by decide), h6 19 (by decide)⟩ (hK 27 (by decide) (by decide)) ⟨ym 148 (by decide), ym 149 (by decide)⟩ (fun x _ _ => r x), hP.fq fq hJ.2.1.2.2.1.2.1 (fun h => h.elim) (r 1)⟩,
    h2.cg (fun K c => hK K (by omega) (by omega)) (fun b x y => (hS (fun _ => False)).bt (by omega) (fun h => h)) (fun f a b => ym f (by omega)), fun k a b => by rw [hK 21 (by decide) (by decide)]; exact h3 k a b,
    ⟨h4.cg (by rw [e0]) (hK 44 (by decide) (by decide)) (hK 45 (by decide) (by decide)) (fun b x y => (hS (fun _ => False)).bt (by omega) (fun h => h)) (fun f a b => ym f (by omega)), h4'.liv h4 (fun f hf => ym f (by omega)) liv c69⟩, hs, ?_, h7.liv (by rw [e0]) (ym 150 (by decide)) (ym 151 (by decide)) liv c69, ?_⟩, ?_⟩
  · unfold JCt at *
    rw [e0, ym 155 (by decide), ym 156 (by decide), ym 157 (by decide)]; exact h6'
  · unfold gB at *
    rw [e10, ym 69 (by decide), ym 35 (by decide), ym 155 (by decide), ym 156 (by decide), ym 157 (by decide), ym 167 (by decide)]; exact h8
  · refine ⟨⟨fun K c => ?_, hS _, fun s _ => by rw [e0], h6 16 (by decide)⟩, fun f hf => hy f (by simp only [List.mem_cons, List.not_mem_nil, or_false, not_or]; omega), .inr ⟨by rw [e10], fun f a b => ym f (by omega)⟩, .inr ⟨by rw [ym 126 (by decide)], fun f a b => ym f (by omega)⟩, liv, OLV.of (fun f hf => ym f (by omega)), c69⟩
    simp only [List.mem_cons, List.not_mem_nil, or_false, not_or] at c
    exact hK K (by omega) (by omega)
theorem opPut (h : JA As Bs A B δ G n m) (hR : JRn n m) (hf : 0 ≤ q ∧ q ≤ to ∧ to ≤ m 160 0) :
    DON As Bs A B δ G n m (N_Acts_runPut (n 4 609 1) q to n) (if nmE (m 159) q to = q then some (0, m) else N_Y_putStep q (nmE (m 159) q to) to m) := by
  obtain ⟨r1, r2, r3, r4, r5⟩ := hR
  have eB := c_blankAt (fr := q) (to := to) r2 ⟨hf.1, hf.2.1, hf.2.2, r1.2.2⟩
  have hnh := nameHead (g := m 159) (q := q) (to := to) (st := bkA (m 159) q to) hf.2.1 rfl
  have hst0 : q ≤ bkA (m 159) q to := scx_ge _ _
  have hst1 : bkA (m 159) q to ≤ to := scx_le hf.2.1
  generalize hst : bkA (m 159) q to = st at *
  have bad : N_Acts_runPut (n 4 609 1) q to n = some (0, n) → (if nmE (m 159) q to = q then some (0, m) else N_Y_putStep q (nmE (m 159) q to) to m) = some (0, m) → DON As Bs A B δ G n m (N_Acts_runPut (n 4 609 1) q to n) (if nmE (m 159) q to = q then some (0, m) else N_Y_putStep q (nmE (m 159) q to) to m) := fun a b => ⟨0, n, m, a, b, .inl rfl, h.mono (by omega), FA.refl n m⟩
  have eN := c_isName r2 (fr := q) (to := st) ⟨hf.1, by omega, r1.2.2⟩
  rcases hnh with ⟨z1, z2, z3, z4⟩ | ⟨z1, z2⟩
  · rw [if_pos z4] at eN
    by_cases hto : st = to
    · refine bad ?_ ?_
      · unfold N_Acts_runPut
        rw [eB]
        simp only [Option.bind_some]
        rw [if_pos hto]
      · rw [if_neg z1, z3]
        unfold N_Y_putStep
        rw [if_pos hto]
    · have h32 : m 159 st = 32 := by
        rcases z2 with y | y
        · omega
        · rw [z3] at y; exact y
      have hall := nameAll (g := m 159) (fr := st + 1) (to := to) (by omega)
      have eN2 := c_isName r2 (fr := st + 1) (to := to) ⟨by omega, hf.2.2, r1.2.2⟩
      have hC : N_Acts_runPut (n 4 609 1) q to n = if (if st + 1 < to ∧ nmC (m 159) (st + 1) to = to then (1 : Int) else 0) = 0 then some (0, n) else (N_Bytes_pack (n 4 609 1) q st n).bind fun z22 => ck (st + 1) ((N_Bytes_pack (n 4 609 1) (st + 1) to n).bind fun z27 => (N_Net_putStore z22 z27 n).bind fun n31 => some (1, n31)) := by
        unfold N_Acts_runPut
        rw [eB]
        simp only [Option.bind_some]
        rw [if_neg hto, eN]
        simp only [Option.bind_some]
        rw [if_neg (by decide)]
        unfold ck
        rw [if_pos (show inR (st + 1) by omega), eN2]
        simp only [Option.bind_some]
      by_cases hg : st + 1 < to ∧ nmC (m 159) (st + 1) to = to
      · rw [if_pos hg, if_neg (by decide)] at hC
        have hE := (hall.mpr hg).2
        have nm1 := nmC_in z4
        have nm2 := nmC_in hg
        have p1 := c_packN r2 (fr := q) (to := st) ⟨hf.1, by omega, r1.2.2⟩ z4
        have p2 := c_packN r2 (fr := st + 1) (to := to) ⟨by omega, hf.2.2, r1.2.2⟩ hg
        have hw1 : okN (sg (m 159) q (st - q).toNat) := ⟨by rw [sg_len]; omega, by rw [sg_len]; omega, sg_mem (P := isNm) _ _ (fun x hx => nm1.2 _ (by omega) (by omega))⟩
        have hw2 : okN (sg (m 159) (st + 1) (to - (st + 1)).toNat) := ⟨by rw [sg_len]; omega, by rw [sg_len]; omega, sg_mem (P := isNm) _ _ (fun x hx => nm2.2 _ (by omega) (by omega))⟩
        have hg' := h
        obtain ⟨κ, N1, o1, e1', p1', ⟨hJ1, hH1, hP1⟩, _, _, _, ⟨hS1, hS8⟩, _⟩ := hg'
        obtain ⟨s, ss, qq, mk, hW, hC1, hRr⟩ := hP1
        obtain ⟨n', m', x1, x2, x3, x4, x5, x6, x7⟩ := put_both (fr := q) (k := st) (to := to) hS1 hS8 hJ1.2.1.1 hJ1.2.1.2.2.1.2.1 hC1 hRr hW ⟨hf.1, by omega, by omega, by omega⟩ h32 rfl hw1 rfl hw2 hE
        obtain ⟨j1, j2⟩ := h.store ⟨x3, x4⟩ x5 x6 x7
        refine ⟨1, n', m', ?_, by rw [if_neg z1, z3]; exact x2, .inr rfl, j1.mono (by omega), j2⟩
        rw [hC, p1]
        simp only [Option.bind_some]
        unfold ck
        rw [if_pos (by omega), p2]
        simp only [Option.bind_some]
        rw [x1]; rfl
      · rw [if_neg hg, if_pos rfl] at hC
        refine bad hC ?_
        rw [if_neg z1, z3]
        unfold N_Y_putStep ix ck
        rw [if_neg hto, if_pos (by omega), if_pos h32, if_pos (show inR (st + 1) by omega), ys_nameEnd (f := 159) (by show _ ≤ (2000 : Int); omega) (by omega) (by omega) (by omega)]
        simp only [Option.bind_some]
        rw [if_pos (show inR (st + 1) by omega)]
        by_cases y : nmE (m 159) (st + 1) to = st + 1
        · rw [if_pos y]
        · rw [if_neg y, if_neg (fun w => hg (hall.mp ⟨y, w⟩))]
  · rw [if_neg z2] at eN
    refine bad ?_ ?_
    · unfold N_Acts_runPut
      rw [eB]
      simp only [Option.bind_some]
      by_cases hto : st = to
      · rw [if_pos hto]
      · rw [if_neg hto, eN]
        simp only [Option.bind_some]
        rw [if_pos trivial]
    · by_cases y : nmE (m 159) q to = q
      · rw [if_pos y]
      · rw [if_neg y]
        have y1 : nmE (m 159) q to ≠ to := fun w => z1 ⟨y, .inl w⟩
        have y2 : m 159 (nmE (m 159) q to) ≠ 32 := fun w => z1 ⟨y, .inr w⟩
        have hb : q ≤ nmE (m 159) q to ∧ nmE (m 159) q to ≤ to := by
          have := scx_ge (p := fun j => isNm (m 159 j)) q to
          have := scx_le (p := fun j => isNm (m 159 j)) (i := q) (to := to) hf.2.1
          unfold nmE
          split
          · split <;> omega
          · omega
        unfold N_Y_putStep ix
        rw [if_neg y1, if_pos (by omega), if_neg y2]
theorem opWait (h : JA As Bs A B δ G n m) (hG : G < 600000000) (hR : JRn n m) (hf : 0 ≤ fr ∧ fr ≤ to ∧ to ≤ m 160 0) :
    DON As Bs A B δ G n m (N_Acts_runWait (n 4 609 1) fr to n) (N_Y_waitStep fr to m) := by
  obtain ⟨r1, r2, r3, r4, r5⟩ := hR
  obtain ⟨κ, N, o, e, p, ⟨hJ, hH, hP⟩, h2, h3, ⟨h4, h4'⟩, h5, h6', h7, h8⟩ := h
  have hB := hJ.1
  have hrow := JRn.row hB
  obtain ⟨r, n', m', x1, x2, x3, x4, x5, ⟨na, nb, k1, fb, k2⟩, x7, x8, x9, x10⟩ := wait_both (fr := fr) (to := to) h4 hB r4 hJ.2.1.2.2.2.2.2.2.2.1 (by have := h8.2.2.2.1; omega) r2 hrow.1 (fun b x y => hrow.2 b (by omega) (by omega) (by omega)) ⟨hf.1, hf.2.1, hf.2.2, r1.2.2⟩ (fun j x y => ⟨rfl, r3 j (by omega) (by omega)⟩)
  have hSS : ∀ x : Int, (611 ≤ x ∧ x ≤ 630) → 0 ≤ x ∧ x ≤ 631 := fun x hx => by omega
  have ym : ∀ f, ¬ (166 ≤ f ∧ f ≤ 173) → m' f = m f := fun f hf => x8 f (by simp only [List.mem_cons, List.not_mem_nil, or_false, not_or]; omega)
  have r' : ∀ r, RwE m m' r := fun r => RwE.of (ym 6 (by decide)) (ym 7 (by decide)) (ym 8 (by decide))
  have ka : ∀ K, K ≠ 0 → K ≠ 44 → na K = n K := fun K a b => k1 K (by simp only [List.mem_cons, List.not_mem_nil, or_false, not_or]; exact ⟨a, b⟩)
  have kb : ∀ K, K ≠ 0 → K ≠ 44 → n' K = nb K := fun K a b => k2 K (by simp only [List.mem_cons, List.not_mem_nil, or_false, not_or]; exact ⟨a, b⟩)
  have kk : ∀ K, K ≠ 0 → K ≠ 44 → K ≠ 4 → K ≠ 90 → K ≠ 91 → K ≠ 92 → K ≠ 93 → K ≠ 99 → n' K = n K := fun K a b c1 c2 c3 c4 c5 c6 => by rw [kb K a b, fb.1 K c1 c2 c3 c4 c5 c6, ka K a b]
  have hBa : BI A B na := hB.cg (ka 4 (by decide) (by decide)) (by rw [ka 5 (by decide) (by decide)]; exact ⟨rfl, rfl⟩) (ka 90 (by decide) (by decide)) (ka 91 (by decide) (by decide)) (ka 92 (by decide) (by decide)) (ka 93 (by decide) (by decide))
  have q1 : FQ As Bs (fun _ => False) n na := FQ.ks (fun K hK => ka K (by omega) (by omega))
  have q3 : FQ As Bs (fun _ => False) nb n' := FQ.ks (fun K hK => kb K (by omega) (by omega))
  have hA := hJ.2.1.1
  have hb := hJ.2.1.2.1
  have q2 : FQ As Bs (fun _ => False) na nb := FQ.fb fb hSS hBa (hA.fq q1) (hb.fq q1)
  have fq := (q1.trans q2).trans q3
  have s1 : FS (fun x => 611 ≤ x ∧ x ≤ 630) n na := FS.ks (ka 4 (by decide) (by decide)) (ka 99 (by decide) (by decide))
  have s2 : FS (fun x => 611 ≤ x ∧ x ≤ 630) na nb := FS.fb fb hSS hBa
  have s3 : FS (fun x => 611 ≤ x ∧ x ≤ 630) nb n' := FS.ks (kb 4 (by decide) (by decide)) (kb 99 (by decide) (by decide))
  have fs := (s1.trans s2).trans s3
  have f7 : FQ7 n n' := (((FQ7.ks (ka 99 (by decide) (by decide)) : FQ7 n na).trans q1 (FQ7.fb fb hSS hBa)).trans (q1.trans q2) (FQ7.ks (kb 99 (by decide) (by decide))))
  have e6 : n' 6 = n 6 := kk 6 (by decide) (by decide) (by decide) (by decide) (by decide) (by decide) (by decide) (by decide)
  have e10 : n' 10 = n 10 := kk 10 (by decide) (by decide) (by decide) (by decide) (by decide) (by decide) (by decide) (by decide)
  have liv : LIV m m' := LIV.of (ym 45 (by decide)) (ym 46 (by decide)) (ym 55 (by decide))
  have c69 : m 69 0 ≤ m' 69 0 := by rw [ym 69 (by decide)]; exact Int.le_refl _
  refine ⟨r, n', m', x1, x2, x3, ⟨κ, N, o, e, p, ⟨hJ.cg x5 fq f7 (fun _ h => h.elim) (fun K hK' => kk K (by omega) (by omega) (by omega) (by omega) (by omega) (by omega) (by omega) (by omega)) (fun s hs => by rw [e6]) (fs.bt (by omega) (by omega)) (fun f a b => ym f (by omega)) (fun x _ => r' x), hH.cg fq (fun _ h => h.elim) (by rw [e6]; exact ⟨rfl, rfl⟩) (kk 27 (by decide) (by decide) (by decide) (by decide) (by decide) (by decide) (by decide) (by decide)) ⟨ym 148 (by decide), ym 149 (by decide)⟩ (fun x _ _ => r' x), hP.fq fq hJ.2.1.2.2.1.2.1 (fun h => h.elim) (r' 1)⟩,
    h2.cg (fun K c => kk K (by omega) (by omega) (by omega) (by omega) (by omega) (by omega) (by omega) (by omega)) (fun b x y => fs.bt (by omega) (by omega)) (fun f a b => ym f (by omega)), fun k a b => by rw [kk 21 (by decide) (by decide) (by decide) (by decide) (by decide) (by decide) (by decide) (by decide)]; exact h3 k a b,
    ⟨x4, fun i i0 i1 => ?_⟩, h5.cg (kk 26 (by decide) (by decide) (by decide) (by decide) (by decide) (by decide) (by decide) (by decide)) (by rw [e6]) (fun f a b => ym f (by omega)), ?_, h7.liv (x7 6 (by decide)) (ym 150 (by decide)) (ym 151 (by decide)) liv c69, ?_⟩, ?_⟩
  · rcases x10 i i0 i1 with ⟨a, b, c⟩ | ⟨b, c⟩
    · rw [b, c]
      exact (h4' i i0 a).liv (h4.2.2.2.1 i i0 a).2.1.2.1 liv c69
    · rw [b, c]; exact r5.liv r4.2.1 liv c69
  · unfold JCt at *
    rw [x7 7 (by decide), x7 8 (by decide), x7 10 (by decide), ym 155 (by decide), ym 156 (by decide), ym 157 (by decide)]; exact h6'
  · unfold gB at *
    rw [e10, ym 69 (by decide), ym 35 (by decide), ym 155 (by decide), ym 156 (by decide), ym 157 (by decide)]
    omega
  · refine ⟨⟨fun K c => ?_, fs.wid (fun x hx => .inr (.inr (by omega))), fun s c => x7 s (fun z => c (by rw [z]; decide)), by rw [e6]⟩, fun f hf => ym f (by omega), .inr ⟨by rw [e10], fun f a b => ym f (by omega)⟩, .inr ⟨by rw [ym 126 (by decide)], fun f a b => ym f (by omega)⟩, liv, OLV.of (fun f hf => ym f (by omega)), c69⟩
    simp only [List.mem_cons, List.not_mem_nil, or_false, not_or] at c
    exact kk K (by omega) (by omega) (by omega) (by omega) (by omega) (by omega) (by omega) (by omega)
end N1
