/-! THE CALL tick -/
section O8
variable {n n' n'' n2 : NS} {m m' m'' m0 m6 mR : YS} {A B N N' k b a δ δ' fr to d L r r' q x f v c G G' i z M : Int} {o e p o' e' p' : Int → Int} {As Bs W S : Int → Prop}
/-- tasks have changed -/
theorem JA.tasks (h : JA As Bs A B δ G n m) (hK : ∀ K, K ≠ 0 → K ≠ 44 → K ≠ 45 → n' K = n K) (h0 : ∀ s, s = 6 ∨ s = 7 ∨ s = 8 ∨ s = 10 → n' 0 0 s = n 0 0 s) (hm : ∀ f, ¬ (159 ≤ f ∧ f ≤ 163) → f ≠ 166 → ¬ (168 ≤ f ∧ f ≤ 173) → m' f = m f) (hT : JTk n' m') (hE : JTe m') : JA As Bs A B δ G n' m' := by
  obtain ⟨κ, N, o, e, p, ⟨hJ, hH, hP⟩, h2, h3, _, h5, h6', h7, h8⟩ := h
  have ym : ∀ f, f < 159 → m' f = m f := fun f hf => hm f (by omega) (by omega) (by omega)
  have r : ∀ r, RwE m m' r := fun r => RwE.of (ym 6 (by decide)) (ym 7 (by decide)) (ym 8 (by decide))
  have fq : FQ As Bs (fun _ => False) n n' := FQ.ks (fun K hK' => hK K (by omega) (by omega) (by omega))
  have hS : ∀ S : Int → Prop, FS S n n' := fun S => FS.ks (hK 4 (by decide) (by decide) (by decide)) (hK 99 (by decide) (by decide) (by decide))
  have hB' : BI A B n' := hJ.1.cg (hK 4 (by decide) (by decide) (by decide)) (by rw [hK 5 (by decide) (by decide) (by decide)]; exact ⟨rfl, rfl⟩) (hK 90 (by decide) (by decide) (by decide)) (hK 91 (by decide) (by decide) (by decide)) (hK 92 (by decide) (by decide) (by decide)) (hK 93 (by decide) (by decide) (by decide))
  have liv : LIV m m' := LIV.of (ym 45 (by decide)) (ym 46 (by decide)) (ym 55 (by decide))
  have c69 : m 69 0 ≤ m' 69 0 := by rw [ym 69 (by decide)]; exact Int.le_refl _
  have e6 := hK 6 (by decide) (by decide) (by decide)
  refine ⟨κ, N, o, e, p, ⟨hJ.cg hB' fq (FQ7.ks (hK 99 (by decide) (by decide) (by decide))) (fun _ h => h.elim) (fun K hK' => hK K (by omega) (by omega) (by omega)) (fun s hs => by rw [e6]) ((hS (fun _ => False)).bt (by omega) (fun h => h)) (fun f a b => ym f (by omega)) (fun x _ => r x), hH.cg fq (fun _ h => h.elim) (by rw [e6]; exact ⟨rfl, rfl⟩) (hK 27 (by decide) (by decide) (by decide)) ⟨ym 148 (by decide), ym 149 (by decide)⟩ (fun x _ _ => r x), hP.fq fq hJ.2.1.2.2.1.2.1 (fun h => h.elim) (r 1)⟩,
    h2.cg (fun K c => hK K (by omega) (by omega) (by omega)) (fun b x y => (hS (fun _ => False)).bt (by omega) (fun h => h)) (fun f a b => ym f (by omega)), fun k a b => by rw [hK 21 (by decide) (by decide) (by decide)]; exact h3 k a b, ⟨hT, hE⟩,
    h5.cg (hK 26 (by decide) (by decide) (by decide)) (by rw [e6]) (fun f a b => hm f (by omega) (by omega) (by omega)), ?_, h7.liv (h0 6 (by omega)) (ym 150 (by decide)) (ym 151 (by decide)) liv c69, ?_⟩
  · unfold JCt at *
    rw [h0 7 (by omega), h0 8 (by omega), h0 10 (by omega), ym 155 (by decide), ym 156 (by decide), ym 157 (by decide)]; exact h6'
  · unfold gB at *
    rw [hK 10 (by decide) (by decide) (by decide), ym 69 (by decide), ym 35 (by decide), ym 155 (by decide), ym 156 (by decide), ym 157 (by decide), hm 167 (by decide) (by decide) (by decide)]; exact h8
/-- a task is taken out, and its script begins -/
theorem task_start (h : WYE As Bs A B G n m) (h154 : m 154 0 = 0) (hz : dueF (m 25 0) (m 168) (m 166 0).toNat = z) (hz0 : 0 ≤ z ∧ z < m 166 0) (hclk : n 6 0 12 = m 25 0) :
    ∃ n' m1, N_Acts_takeDueTask n = some (1, n') ∧ N_Y_doTask z m = (N_Y_runScript m1).bind (fun m39 => some m39) ∧ RUN As Bs A B G n' m1 ∧ n' 0 0 12 = 0 ∧ (m1 166 0 = m 166 0 - 1 ∧ m1 158 0 = m 158 0 ∧ m1 160 0 ≤ 60) ∧ FC n n' m m1 ∧ FP m m1 ∧ (∀ s, s = 15 ∨ s = 16 ∨ s = 18 → n' 0 0 s = n 0 0 s) := by
  obtain ⟨h1, h2, h3, h4, h5, h6⟩ := h
  obtain ⟨κ, N, o, e, p, _, hT, _, ⟨hk, hke⟩, _⟩ := id h1
  have hk' := hk
  obtain ⟨t1, t2, t3, t4, t5, t6⟩ := hk
  generalize hM : m 166 0 = M at *
  have tz := t4 z hz0.1 hz0.2
  have ez := hke z hz0.1 (by rw [hM]; exact hz0.2)
  have r45 := t2 z hz0.1 (by omega)
  have lz : (bt n (n 45 0 z)).length ≤ 2000 := by rw [tz.2.2.2.1, sg_len]; have := tz.2.2.1; omega
  obtain ⟨n18, s1, s2, s3, s4, s5, s6, s7, s8, s9, s10, s11⟩ := startScript_c (R := n 45 0 z) (M := n 44 0 (2 * z + 1)) h1 ⟨by omega, by omega⟩ lz
  have k44 : n18 44 = n 44 := s10 44 (by decide)
  have k45 : n18 45 = n 45 := s10 45 (by decide)
  have e5 : n18 0 0 5 = M := by rw [s5 5 (by decide) (by decide)]; exact t1.1
  generalize hn24 : nw n18 0 0 5 (M - 1) = n24
  have k24 : ∀ K, K ≠ 0 → n24 K = n18 K := fun K hK => by rw [← hn24, nw_nK hK]
  have sl24 : ∀ s, s ≠ 5 → n24 0 0 s = n18 0 0 s := fun s hs => by rw [← hn24, nw_ns hs]
  obtain ⟨n27, eg, g1, g2, g3⟩ := c_gap (v := n 45 0 z) (n := n24) (M := M - 1) (z := z) (by rw [← hn24, nw_eq]) ⟨hz0.1, by omega, by omega⟩ (fun i i0 i1 => by rw [k24 45 (by decide), k45]; have := t2 i i0 i1; omega)
  generalize hn33 : nw n27 45 0 (M - 1) (n 45 0 z) = n33
  have k33 : ∀ K, K ≠ 0 → K ≠ 44 → K ≠ 45 → n33 K = n18 K := fun K a b c => by rw [← hn33, nw_nK c, g1 K b c, k24 K a]
  have sl33 : ∀ s, s ≠ 5 → n33 0 0 s = n18 0 0 s := fun s hs => by rw [← hn33, nw_nK (by decide), g1 0 (by decide) (by decide), sl24 s hs]
  have c33 : n33 0 0 5 = M - 1 := by rw [← hn33, nw_nK (by decide), g1 0 (by decide) (by decide), ← hn24, nw_eq]
  have a45 : ∀ i, 0 ≤ i → i < 20 → n33 45 0 i = n 45 0 (if z ≤ i ∧ i < M - 1 then i + 1 else if i = M - 1 then z else i) := fun i i0 i1 => by
    rw [← hn33]
    by_cases u : i = M - 1
    · rw [u, nw_eq, if_neg (by omega), if_pos rfl]
    · rw [nw_ns u, g3 i i0 i1, k24 45 (by decide), k45]
      by_cases w : z ≤ i ∧ i < M - 1
      · rw [if_pos w, if_pos w]
      · rw [if_neg w, if_neg w, if_neg u]
  have a44 : ∀ i, 0 ≤ i → i < M - 1 → n33 44 0 (2 * i) = n 44 0 (2 * (if i < z then i else i + 1)) ∧ n33 44 0 (2 * i + 1) = n 44 0 (2 * (if i < z then i else i + 1) + 1) := fun i i0 i1 => by
    have q := g2 i i0 i1
    rw [← hn33, nw_nK (by decide), q.1, q.2, k24 44 (by decide), k44]
    by_cases w : i < z
    · rw [if_pos w, if_pos w, if_pos w]; exact ⟨rfl, rfl⟩
    · rw [if_neg w, if_neg w, if_neg w, show 2 * (i + 1) = 2 * i + 2 by omega, show 2 * i + 2 + 1 = 2 * i + 3 by omega]; exact ⟨rfl, rfl⟩
  -- the reference
  generalize hm5 : yw m 160 0 (m 172 z) = m5
  have y5 : ∀ g, g ≠ 160 → m5 g = m g := fun g hg => by rw [← hm5, yw_nF hg]
  have e160 : m5 160 0 = m 172 z := by rw [← hm5, yw_eq]
  have b172 := tz.2.2.1
  obtain ⟨m8, ec, c1, c2, c3⟩ : ev (NL_Y_doTask_12 z 0 m5) (fun m' => FY [159] m5 m' ∧ (∀ j, 0 ≤ j → j < m 172 z → m' 159 (0 + j) = m5 173 (60 * z + j)) ∧ ∀ j, ¬ (0 ≤ j ∧ j < 0 + m 172 z) → m' 159 j = m5 159 j) := by
    unfold NL_Y_doTask_12
    refine y_copy (F := 159) (G := 173) (K := m 172 z) (a := 0) (b := 60 * z) (by decide) b172.1 (fun k m9 f9 k0 k1 => ?_) (fun m9 f9 => ?_)
    · show nb_Y_doTask_12 z k m9 = _
      unfold nb_Y_doTask_12 ck ix st
      dsimp only
      rw [f9 160 (by decide), e160, if_pos k1, if_pos (by omega), if_pos (by omega), if_pos (by omega), if_pos (by omega), if_pos (by omega), show (0 : Int) + k = k by omega]
    · show nb_Y_doTask_12 z (m 172 z) m9 = _
      unfold nb_Y_doTask_12
      rw [f9 160 (by decide), e160, if_neg (by omega)]
  generalize hm28 : yw (yw (yw m8 161 0 (m 170 z)) 162 0 (m 171 z)) 166 0 (M - 1) = m28
  have y28 : ∀ g, g ≠ 161 → g ≠ 162 → g ≠ 166 → m28 g = m8 g := fun g u w x => by rw [← hm28, yw_nF x, yw_nF w, yw_nF u]
  have y28m : ∀ g, ¬ (159 ≤ g ∧ g ≤ 162) → g ≠ 166 → m28 g = m g := fun g u w => by rw [y28 g (by omega) (by omega) w, c1 g (by simp only [List.mem_cons, List.not_mem_nil, or_false]; omega), y5 g (by omega)]
  have e166 : m28 166 0 = M - 1 := by rw [← hm28, yw_eq]
  obtain ⟨m31, eh, f31, q31, w31⟩ := y_gap (m := m28) (M := M - 1) (z := z) e166 ⟨hz0.1, by omega, by omega⟩
  have y31 : ∀ g, ¬ (168 ≤ g ∧ g ≤ 173) → m31 g = m28 g := fun g hg => f31 g (by simp only [List.mem_cons, List.not_mem_nil, or_false, not_or]; omega)
  generalize hm35 : yw m31 163 0 0 = m35
  have y35 : ∀ g, g ≠ 163 → m35 g = m31 g := fun g hg => by rw [← hm35, yw_nF hg]
  have yA : ∀ g, ¬ (159 ≤ g ∧ g ≤ 163) → g ≠ 166 → ¬ (168 ≤ g ∧ g ≤ 173) → m35 g = m g := fun g u w x => by rw [y35 g (by omega), y31 g x, y28m g (by omega) w]
  have e166' : m35 166 0 = M - 1 := by rw [y35 166 (by decide), y31 166 (by decide)]; exact e166
  have aY : ∀ g, g = 168 ∨ g = 169 ∨ g = 170 ∨ g = 171 ∨ g = 172 → ∀ i, 0 ≤ i → i < M - 1 → m35 g i = m g (if i < z then i else i + 1) := fun g hg i i0 i1 => by
    rw [y35 g (by omega), q31 g hg i i0, y28m g (by omega) (by omega)]
    by_cases w : i < z
    · rw [if_neg (by omega), if_pos w]
    · rw [if_pos (by omega), if_neg w]
  have aW : ∀ i j, 0 ≤ i → i < M - 1 → 0 ≤ j → j < 60 → m35 173 (60 * i + j) = m 173 (60 * (if i < z then i else i + 1) + j) := fun i j i0 i1 j0 j1 => by
    rw [y35 173 (by decide), w31 i j i0 j0 j1, y28m 173 (by decide) (by decide)]
    by_cases w : i < z
    · rw [if_neg (by omega), if_pos w]
    · rw [if_pos (by omega), if_neg w]
  have hi' : ∀ i, 0 ≤ i → i < M - 1 → 0 ≤ (if i < z then i else i + 1) ∧ (if i < z then i else i + 1) < M := fun i i0 i1 => by split <;> omega
  have fb18 : ∀ b, 611 ≤ b → b ≤ 630 → bt n33 b = bt n b := fun b b0 b1 => by
    have : bt n33 b = bt n18 b := by unfold bt; rw [k33 4 (by decide) (by decide) (by decide), k33 99 (by decide) (by decide) (by decide)]
    rw [this]
    exact s11 b (by omega) (by omega) (by omega)
  have hTk : JTk n33 m35 := by
    refine ⟨⟨by rw [c33, e166'], by omega, by omega⟩, fun i i0 i1 => ?_, fun i j i0 i1 j0 j1 hij => ?_, fun i i0 i1 => ?_, fun i j i0 ij j1 => ?_, by rw [yA 167 (by decide) (by decide) (by decide)]; exact t6⟩
    · rw [a45 i i0 i1]
      refine t2 _ ?_ ?_
      · split
        · omega
        · split <;> omega
      · split
        · omega
        · split <;> omega
    · rw [a45 i i0 i1, a45 j j0 j1] at hij
      have := t3 _ _ (by split; omega; split <;> omega) (by split; omega; split <;> omega) (by split; omega; split <;> omega) (by split; omega; split <;> omega) hij
      (repeat' split at this) <;> omega
    · rw [e166'] at i1
      have hb := hi' i i0 i1
      obtain ⟨p1, p2, p3, p4, p5, p6⟩ := t4 _ hb.1 hb.2
      have q := a44 i i0 i1
      have e45 : n33 45 0 i = n 45 0 (if i < z then i else i + 1) := by
        rw [a45 i i0 (by omega)]
        by_cases w : i < z
        · rw [if_neg (by omega), if_neg (by omega), if_pos w]
        · rw [if_pos (by omega), if_neg w]
      have r' := t2 _ hb.1 (by omega)
      have esg : sg (m35 173) (60 * i) (m35 172 i).toNat = sg (m 173) (60 * (if i < z then i else i + 1)) (m 172 (if i < z then i else i + 1)).toNat := by
        rw [aY 172 (by omega) i i0 i1]
        exact sg_cg _ _ _ (fun x hx => aW i x i0 i1 (by omega) (by omega))
      rw [q.1, q.2, e45, esg, aY 168 (by omega) i i0 i1, aY 170 (by omega) i i0 i1, aY 171 (by omega) i i0 i1, aY 172 (by omega) i i0 i1, aY 169 (by omega) i i0 i1, yA 167 (by decide) (by decide) (by decide), fb18 _ r'.1 r'.2]
      exact ⟨p1, p2, p3, p4, p5, p6⟩
    · rw [e166'] at j1
      rw [aY 169 (by omega) i i0 (by omega), aY 169 (by omega) j (by omega) j1]
      have hb := hi' i i0 (by omega)
      have hb' := hi' j (by omega) j1
      exact t5 _ _ hb.1 (by split <;> split <;> omega) hb'.2
  have hTe : JTe m35 := fun i i0 i1 => by
    rw [e166'] at i1
    have hb := hi' i i0 i1
    rw [aY 170 (by omega) i i0 i1, aY 171 (by omega) i i0 i1]
    have := hke _ hb.1 (by rw [hM]; exact hb.2)
    unfold ELm at *
    rw [yA 45 (by decide) (by decide) (by decide), yA 46 (by decide) (by decide) (by decide), yA 55 (by decide) (by decide) (by decide), yA 69 (by decide) (by decide) (by decide)]; exact this
  have jA : JA As Bs A B 0 G n33 m35 := s2.tasks k33 (fun s hs => sl33 s (by omega)) yA hTk hTe
  have e160' : m35 160 0 = m 172 z := by rw [y35 160 (by decide), y31 160 (by decide), y28 160 (by decide) (by decide) (by decide), c1 160 (by decide)]; exact e160
  have e159 : m35 159 = m8 159 := by rw [y35 159 (by decide), y31 159 (by decide), y28 159 (by decide) (by decide) (by decide)]
  have esg : sg (m35 159) 0 (m35 160 0).toNat = sg (m 173) (60 * z) (m 172 z).toNat := by
    rw [e160', e159]
    refine sg_cg _ _ _ (fun x hx => ?_)
    rw [c2 x (by omega) (by omega), y5 173 (by decide)]
  have e161 : m35 161 0 = m 170 z ∧ m35 162 0 = m 171 z := by
    rw [y35 161 (by decide), y35 162 (by decide), y31 161 (by decide), y31 162 (by decide), ← hm28]
    exact ⟨by rw [yw_nF (by decide), yw_nF (by decide), yw_eq], by rw [yw_nF (by decide), yw_eq]⟩
  have b609 : bt n33 609 = bt n (n 45 0 z) := by
    rw [← s3]
    unfold bt
    rw [k33 4 (by decide) (by decide) (by decide), k33 99 (by decide) (by decide) (by decide)]
  have ix1 : ∀ {α : Type} (x : Option α), ix z 20 x = x := fun x => by unfold ix; rw [if_pos (by omega)]
  refine ⟨n33, m35, ?_, ?_, ⟨jA, ?_, ?_, ⟨?_, ?_⟩, ?_, ?_, ?_⟩, ?_, ⟨e166', ?_, by omega⟩, ?_, ?_, fun s hs => ?_⟩
  · unfold N_Acts_takeDueTask
    rw [c_due hk' hclk, hM, hz]
    simp only [Option.bind_some]
    have h9 := h2.1
    have : m 158 0 < 200 := by rcases h2.2.2 with y | y <;> omega
    rw [if_neg (by omega), if_neg (by omega), ix1]
    unfold nn ck ix
    rw [if_pos (by omega), if_pos (by omega), if_pos (by omega), if_pos (by omega), s1]
    simp only [Option.bind_some]
    rw [e5, if_pos (by omega)]
    unfold st
    dsimp only
    rw [hn24, eg]
    simp only [Option.bind_some]
    have e27 : n27 0 0 5 = M - 1 := by rw [g1 0 (by decide) (by decide), ← hn24, nw_eq]
    rw [e27, if_pos (by omega), hn33]
  · unfold N_Y_doTask
    simp only [ix1]
    unfold st
    dsimp only
    rw [hm5, ec]
    simp only [Option.bind_some]
    have q1 : m8 170 z = m 170 z := by rw [c1 170 (by decide), y5 170 (by decide)]
    have q2 : yw m8 161 0 (m 170 z) 171 z = m 171 z := by rw [yw_nF (by decide), c1 171 (by decide), y5 171 (by decide)]
    have q3 : yw (yw m8 161 0 (m 170 z)) 162 0 (m 171 z) 166 0 = M := by rw [yw_nF (by decide), yw_nF (by decide), c1 166 (by decide), y5 166 (by decide)]; exact hM
    rw [q1, q2, q3]
    unfold ck
    rw [if_pos (by omega), hm28, eh]
    simp only [Option.bind_some]
    rw [hm35]
  · refine JRn.lay jA.bi (by rw [b609, esg]; exact tz.2.2.2.1) (by rw [e160']; omega) (by rw [esg]; exact tz.2.2.2.2.1) ?_ ?_
    · rw [e161.1, e161.2, sl33 13 (by decide), s7]; exact tz.2.1
    · rw [e161.1, e161.2]
      unfold ELm at *
      rw [yA 45 (by decide) (by decide) (by decide), yA 46 (by decide) (by decide) (by decide), yA 55 (by decide) (by decide) (by decide), yA 69 (by decide) (by decide) (by decide)]; exact ez
  · unfold BUD at *
    rw [sl33 9 (by decide), s5 9 (by decide) (by decide), yA 158 (by decide) (by decide) (by decide), yA 154 (by decide) (by decide) (by decide)]; exact h2
  · rw [sl33 17 (by decide), s5 17 (by decide) (by decide)]; exact h3.1
  · rw [k33 6 (by decide) (by decide) (by decide), s8]; exact h3.2
  · left; rw [← hm35, yw_eq]
  · rw [yA 152 (by decide) (by decide) (by decide)]; exact h4.2.1
  · rw [yA 153 (by decide) (by decide) (by decide)]; exact h4.2.2
  · rw [sl33 12 (by decide)]; exact s6
  · rw [yA 158 (by decide) (by decide) (by decide)]
  · refine s4.trans ⟨⟨fun K c => ?_, FS.ks (k33 4 (by decide) (by decide) (by decide)) (k33 99 (by decide) (by decide) (by decide)), fun s c => sl33 s (fun w => c (by rw [w]; decide))⟩, fun g hg => yA g (by omega) (by omega) (by omega), .inr ⟨by rw [k33 10 (by decide) (by decide) (by decide)], fun g a b => yA g (by omega) (by omega) (by omega)⟩, .inr ⟨by rw [yA 126 (by decide) (by decide) (by decide)], fun g a b => yA g (by omega) (by omega) (by omega)⟩⟩
    simp only [List.mem_cons, List.not_mem_nil, or_false, not_or] at c
    exact k33 K (by omega) (by omega) (by omega)
  · exact FP.of (fun g a b => yA g (by omega) (by omega) (by omega))
  · rw [sl33 s (by omega), s5 s (by omega) (by omega)]
end O8
