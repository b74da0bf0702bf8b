/-! THE CALL tick: all of it -/
section O9
variable {n n' n'' n2 : NS} {m m' m'' m0 m6 mR : YS} {A B N N' k b a δ δ' fr to L r r' q x f v c i z M : Int} {o e p o' e' p' κ : Int → Int} {As Bs W S : Int → Prop}
theorem y_wye {G : Int} (h : WYE As Bs A B G n m) : N_Y_settle m = some m := by
  have : NL_Y_settle_0 m = some m := by
    unfold NL_Y_settle_0
    refine it_inr ?_
    show nb_Y_settle_0 m = _
    unfold nb_Y_settle_0
    rw [if_pos h.2.2.2.1.2.2]
  unfold N_Y_settle
  rw [this]
  simp only [Option.bind_some]
  unfold st
  rw [yw_id h.2.2.2.1.2.1]
theorem JA.clk {G : Int} (h : JA As Bs A B δ G n m) : n 6 0 12 = m 25 0 ∧ 0 ≤ m 25 0 ∧ m 25 0 ≤ 1000000 := by
  obtain ⟨_, _, _, _, _, h1, _⟩ := h
  exact h1.1.2.1.2.2.2.2.2.2.2.1
theorem JA.tkb {G : Int} (h : JA As Bs A B δ G n m) : 0 ≤ m 166 0 ∧ m 166 0 ≤ 20 := by
  obtain ⟨_, _, _, _, _, _, _, _, h4, _⟩ := h
  exact h4.1.1.2
theorem tick_loop : ∀ (k : Nat) (d g G : Int) (n : NS) (m : YS), (m 166 0 + 21 * (200 - m 158 0)).toNat ≤ k → WYE As Bs A B G n m → 0 ≤ d → d + (m 166 0 + 21 * (200 - m 158 0)) ≤ 20000 → 0 ≤ g → g + (m 166 0 + 21 * (200 - m 158 0)) ≤ 20000 → G + 2300 * (200 - m 158 0) < 390000000 →
    ∃ r n' m', NL_H_tick_37 d g n = some (r, n') ∧ NL_Y_tick_31 d 1 m = some (r, m') ∧ WYE As Bs A B (G + 2300 * (m' 158 0 - m 158 0)) n' m' ∧ FC n n' m m' ∧ (m 158 0 ≤ m' 158 0 ∧ m' 158 0 ≤ 200) := by
  intro k
  induction k with
  | zero =>
    intro d g G n m hk h d0 hd g0 hg hG
    have hb : m 158 0 ≤ 200 := by rcases h.2.1.2.2 with y | y <;> omega
    have ht := h.1.tkb
    have h154 : m 154 0 = 1 := by rcases h.2.1.2.2 with y | y <;> omega
    have h9 := h.2.1.1
    obtain ⟨_, _, _, _, _, _, _, _, ⟨hT, _⟩, _⟩ := id h.1
    have hdz := dueF_b (m 25 0) (m 168) (m 166 0).toNat
    refine ⟨d, n, m, ?_, ?_, ?_, FC.refl n m, by omega⟩
    · unfold NL_H_tick_37
      refine it_inr (f := fun s : Int × Int × NS => nb_H_tick_37 s.1 s.2.1 s.2.2) (s := (d, g, n)) ?_
      show nb_H_tick_37 d g n = _
      have eT : N_Acts_takeDueTask n = some (0, n) := by
        unfold N_Acts_takeDueTask
        rw [c_due hT h.1.clk.1]
        simp only [Option.bind_some]
        split
        · rfl
        · rw [if_pos (by omega)]
      unfold nb_H_tick_37
      rw [if_pos (by omega), eT]; rfl
    · unfold NL_Y_tick_31
      refine it_inr (f := fun s : Int × Int × YS => nb_Y_tick_31 s.1 s.2.1 s.2.2) (s := (d, 1, m)) ?_
      show nb_Y_tick_31 d 1 m = _
      unfold nb_Y_tick_31
      rw [if_neg (by decide), if_neg (by omega)]
    · rw [show G + 2300 * (m 158 0 - m 158 0) = G by omega]; exact h
  | succ k ih =>
    intro d g G n m hk h d0 hd g0 hg hG
    have hb : m 158 0 ≤ 200 := by rcases h.2.1.2.2 with y | y <;> omega
    have ht := h.1.tkb
    have h9 := h.2.1.1
    have hb0 : 0 ≤ m 158 0 := h.2.1.2.1
    obtain ⟨_, _, _, _, _, _, _, _, ⟨hT, _⟩, _⟩ := id h.1
    have hdz := dueF_b (m 25 0) (m 168) (m 166 0).toNat
    have hcl := h.1.clk.1
    by_cases h154 : m 154 0 = 0
    · by_cases hz : dueF (m 25 0) (m 168) (m 166 0).toNat = -1
      · refine ⟨d, n, m, ?_, ?_, ?_, FC.refl n m, by omega⟩
        · unfold NL_H_tick_37
          refine it_inr (f := fun s : Int × Int × NS => nb_H_tick_37 s.1 s.2.1 s.2.2) (s := (d, g, n)) ?_
          show nb_H_tick_37 d g n = _
          have eT : N_Acts_takeDueTask n = some (0, n) := by
            unfold N_Acts_takeDueTask
            rw [c_due hT hcl]
            simp only [Option.bind_some]
            rw [if_pos hz]
          unfold nb_H_tick_37
          rw [if_pos (by omega), eT]; rfl
        · unfold NL_Y_tick_31
          rw [it_inl (f := fun s : Int × Int × YS => nb_Y_tick_31 s.1 s.2.1 s.2.2) (s := (d, 1, m)) (s' := (d, 0, m)) ?_]
          · refine it_inr (f := fun s : Int × Int × YS => nb_Y_tick_31 s.1 s.2.1 s.2.2) (s := (d, 0, m)) ?_
            show nb_Y_tick_31 d 0 m = _
            unfold nb_Y_tick_31
            rw [if_pos rfl]
          · show nb_Y_tick_31 d 1 m = _
            unfold nb_Y_tick_31
            rw [if_neg (by decide), if_pos h154, y_due hT]
            simp only [Option.bind_some]
            rw [if_pos hz]
            unfold nk_Y_tick_152
            rw [if_pos rfl]
        · rw [show G + 2300 * (m 158 0 - m 158 0) = G by omega]; exact h
      · have hz0 : 0 ≤ dueF (m 25 0) (m 168) (m 166 0).toNat ∧ dueF (m 25 0) (m 168) (m 166 0).toNat < m 166 0 := by rcases hdz with y | y <;> omega
        obtain ⟨n1, m1, t1, t2, t3, t4, t5, t6, t7, t8⟩ := task_start h h154 rfl hz0 hcl
        generalize hzz : dueF (m 25 0) (m 168) (m 166 0).toNat = z at *
        obtain ⟨c2, n2, m2, r1, r2, r3, r4, r5, r6⟩ := run_both (m1 160 0 + 1).toNat 0 0 G n1 m1 (by omega) t3 t4 (Int.le_refl _) (by have := t3.2.1.1; omega) (Int.le_refl _) (by omega) (by omega)
        have hend5 : n 0 0 16 ≤ n 0 0 15 ∧ n 0 0 18 = 0 := by
          rcases h.2.2.2.2.1 with y | y
          · omega
          · exact y.2
        have hN1 : NIB m1 := h.2.2.2.2.2.fp h.1.born t7
        have nx : ∃ n3 m3, stl (NL_Acts_settle_2 0 n1) = some n3 ∧ N_Y_settle m2 = some m3 ∧ FC n2 n3 m2 m3 ∧ WYE As Bs A B (G + 2300 * (m3 158 0 - m 158 0)) n3 m3 ∧ (m 158 0 ≤ m3 158 0 ∧ m3 158 0 ≤ 200) ∧ m3 166 0 + 21 * (200 - m3 158 0) < m 166 0 + 21 * (200 - m 158 0) := by
          rcases r6 with ⟨q1, q2, q3, q4, q5⟩ | ⟨q1, q2⟩
          · have hW : WYE As Bs A B (G + 2300 * (m2 158 0 - m1 158 0)) n2 m2 := by
              have e15 : n2 0 0 15 = n 0 0 15 := by rw [q2.1.1, t8 15 (by omega)]
              have e16 := t8 16 (by omega)
              have e18 := t8 18 (by omega)
              have hs : n2 0 0 16 ≤ n2 0 0 15 ∧ n2 0 0 18 = 0 := by
                rcases q2.2.2 with y | y
                · omega
                · rw [if_pos (by omega)] at y; omega
              rcases run_end (.inl ⟨q1, q4⟩) (.inr hs) (.inr (hN1.fp t3.1.born q3)) with w | w
              · exact w
              · have := w.2.2.2.2.1.1
                have := q1.2.2.2.2.2.1
                omega
            have tk2 := hW.1.tkb
            refine ⟨n2, m2, by rw [r1]; exact stl_end hW (by omega), y_wye hW, FC.refl n2 m2, by rw [t5.2.1] at hW; exact hW, by omega, ?_⟩
            by_cases u : m2 158 0 = m1 158 0
            · have := r5.2.2 u
              rw [this]; omega
            · omega
          · obtain ⟨n3, m3, s1, s2, s3, s4, s5⟩ := settle_fin (.inr q1) (c := c2) ⟨by omega, by omega⟩ (by omega)
            have tk3 := s4.1.tkb
            refine ⟨n3, m3, by rw [r1]; exact s1, s2, s3, ?_, by omega, ?_⟩
            · rw [show G + 2300 * (m3 158 0 - m 158 0) = G + 2300 * (m2 158 0 - m1 158 0) + 2300 * (m3 158 0 - m2 158 0) by omega]; exact s4
            · omega
        obtain ⟨n3, m3, s1, s2, s3, s4, s5, s6⟩ := nx
        have tk3 := s4.1.tkb
        obtain ⟨r, n', m', z1, z2, z3, z4, z5⟩ := ih (d + 1) (g + 1) (G + 2300 * (m3 158 0 - m 158 0)) n3 m3 (by omega) s4 (by omega) (by omega) (by omega) (by omega) (by omega)
        refine ⟨r, n', m', ?_, ?_, ?_, ((t6.trans r3).trans s3).trans z4, by omega⟩
        · rw [← z1]
          unfold NL_H_tick_37
          refine it_inl (f := fun s : Int × Int × NS => nb_H_tick_37 s.1 s.2.1 s.2.2) (s := (d, g, n)) (s' := (d + 1, g + 1, n3)) ?_
          show nb_H_tick_37 d g n = _
          have eS : N_Acts_settle n1 = some n3 := by
            have : N_Acts_settle n1 = stl (NL_Acts_settle_2 0 n1) := rfl
            rw [this]; exact s1
          unfold nb_H_tick_37
          rw [if_pos (by omega), t1]
          simp only [Option.bind_some, u2]
          rw [if_neg (by decide), eS]
          simp only [Option.bind_some]
          unfold ck
          rw [if_pos (by omega), if_pos (by omega)]
        · rw [← z2]
          unfold NL_Y_tick_31
          refine it_inl (f := fun s : Int × Int × YS => nb_Y_tick_31 s.1 s.2.1 s.2.2) (s := (d, 1, m)) (s' := (d + 1, 1, m3)) ?_
          show nb_Y_tick_31 d 1 m = _
          unfold nb_Y_tick_31
          rw [if_neg (by decide), if_pos h154, y_due hT, hzz]
          simp only [Option.bind_some]
          rw [if_neg (by omega)]
          unfold nk_Y_tick_152 ck
          rw [if_neg (by decide), if_pos (by omega), t2]
          unfold N_Y_runScript
          rw [r2]
          simp only [Option.bind_some]
          rw [s2]; rfl
        · rw [show G + 2300 * (m' 158 0 - m 158 0) = G + 2300 * (m3 158 0 - m 158 0) + 2300 * (m' 158 0 - m3 158 0) by omega]; exact z3
    · have h154' : m 154 0 = 1 := by rcases h.2.1.2.2 with y | y <;> omega
      refine ⟨d, n, m, ?_, ?_, ?_, FC.refl n m, by omega⟩
      · unfold NL_H_tick_37
        refine it_inr (f := fun s : Int × Int × NS => nb_H_tick_37 s.1 s.2.1 s.2.2) (s := (d, g, n)) ?_
        show nb_H_tick_37 d g n = _
        have e200 : m 158 0 = 200 := by rcases h.2.1.2.2 with y | y <;> omega
        have eT : N_Acts_takeDueTask n = some (0, n) := by
          unfold N_Acts_takeDueTask
          rw [c_due hT hcl]
          simp only [Option.bind_some]
          split
          · rfl
          · rw [if_pos (by omega)]
        unfold nb_H_tick_37
        rw [if_pos (by omega), eT]; rfl
      · unfold NL_Y_tick_31
        refine it_inr (f := fun s : Int × Int × YS => nb_Y_tick_31 s.1 s.2.1 s.2.2) (s := (d, 1, m)) ?_
        show nb_Y_tick_31 d 1 m = _
        unfold nb_Y_tick_31
        rw [if_neg (by decide), if_neg h154]
      · rw [show G + 2300 * (m 158 0 - m 158 0) = G by omega]; exact h
theorem JNb.clk (h : JNb κ As Bs n m) (hK : ∀ K, K ≠ 6 → n' K = n K) (h6 : ∀ s, s ≠ 12 → n' 6 0 s = n 6 0 s) (hm : ∀ f, f ≠ 25 → m' f = m f) (hc : n' 6 0 12 = m' 25 0 ∧ 0 ≤ m' 25 0 ∧ m' 25 0 ≤ 1000000) : JNb κ As Bs n' m' := by
  obtain ⟨c1, c2, c3, c4, c5, c6, c7, c8, c9⟩ := h
  have hF : FQ As Bs (fun _ => False) n n' := FQ.ks (fun K hK' => hK K (by omega))
  have h7 : FQ7 n n' := FQ7.ks (hK 99 (by decide))
  have r : ∀ r, RwE m m' r := fun r => RwE.of (hm 6 (by decide)) (hm 7 (by decide)) (hm 8 (by decide))
  refine ⟨c1.fq hF, c2.fq hF, c3, c4.cg hF (fun _ h => h.elim) c2 (h6 2 (by decide)) (hK 23 (by decide)) (fun f hf => hm f (by omega)) (fun k _ _ => by rw [hm 18 (by decide), hm 23 (by decide), hm 24 (by decide)]; exact ⟨rfl, rfl, rfl⟩) (fun j _ _ => by rw [hm 17 (by decide)]) (fun x _ => r x), c5.cg hF h7 (fun _ h => h.elim) c2 (h6 4 (by decide)) (hK 24 (by decide)) (fun f hf => hm f (by omega)) (fun x _ => r x), c6.cg hF c2, ⟨?_, ?_⟩, hc, ?_⟩
  · rw [hm 30 (by decide)]
    exact c7.1.cg (by rw [hK 25 (by decide)]) (hm 31 (by decide)) (hm 32 (by decide)) (hm 33 (by decide)) (hm 34 (by decide))
  · rw [h6 6 (by decide), hm 30 (by decide)]; exact c7.2
  · rw [h6 9 (by decide), hm 35 (by decide), hm 27 (by decide)]; exact c9
/-- the clock goes on -/
theorem CI.clk {G : Int} (h : CI As Bs A B G n m) (hv : 0 ≤ v ∧ m 25 0 + v ≤ 1000000) : CI As Bs A B (G + 6) (nw n 6 0 12 (n 6 0 12 + v)) (yw m 25 0 (m 25 0 + v)) := by
  obtain ⟨h1, h2, h3⟩ := h
  have hcl := h1.clk
  generalize hn' : nw n 6 0 12 (n 6 0 12 + v) = n'
  generalize hm' : yw m 25 0 (m 25 0 + v) = m'
  have hK : ∀ K, K ≠ 6 → n' K = n K := fun K hK => by rw [← hn', nw_nK hK]
  have h6 : ∀ s, s ≠ 12 → n' 6 0 s = n 6 0 s := fun s hs => by rw [← hn', nw_ns hs]
  have hm : ∀ f, f ≠ 25 → m' f = m f := fun f hf => by rw [← hm', yw_nF hf]
  have e12 : n' 6 0 12 = n 6 0 12 + v := by rw [← hn', nw_eq]
  have e25 : m' 25 0 = m 25 0 + v := by rw [← hm', yw_eq]
  have hF : FQ As Bs (fun _ => False) n n' := FQ.ks (fun K hK' => hK K (by omega))
  have r : ∀ r, RwE m m' r := fun r => RwE.of (hm 6 (by decide)) (hm 7 (by decide)) (hm 8 (by decide))
  obtain ⟨κ, N, o, e, p, ⟨⟨hB, hJ, hAs, hSn⟩, hH, hP⟩, _⟩ := id h1
  have hB' : BI A B n' := hB.cg (hK 4 (by decide)) (by rw [hK 5 (by decide)]; exact ⟨rfl, rfl⟩) (hK 90 (by decide)) (hK 91 (by decide)) (hK 92 (by decide)) (hK 93 (by decide))
  have jN : JNt κ As Bs A B n' m' := by
    refine ⟨⟨hB', hJ.clk hK h6 hm ⟨by omega, by omega, by omega⟩, ?_, ?_⟩, hH.cg hF (fun _ h => h.elim) ⟨h6 18 (by decide), h6 19 (by decide)⟩ (hK 27 (by decide)) ⟨hm 148 (by decide), hm 149 (by decide)⟩ (fun x _ _ => r x), hP.fq hF hJ.2.2.1.2.1 (fun h => h.elim) (r 1)⟩
    · unfold JAs at *
      rw [hm 35 (by decide), hK 99 (by decide)]
      rcases hAs with y | ⟨y0, y1⟩
      · exact .inl y
      · exact .inr ⟨y0, y1.fq hF hJ.2.2.1.1 (fun h => h.elim) (r 2)⟩
    · unfold JSnt ys bt at *
      rw [hm 36 (by decide), hm 37 (by decide), hK 4 (by decide), hK 99 (by decide)]; exact hSn
  refine ⟨h1.net jN (fun K c => hK K (fun w => c (by rw [w]; decide))) (h6 8 (by decide)) (FS.ks (hK 4 (by decide)) (hK 99 (by decide))) (fun f hf => hm f (by omega)) (by rw [hm 35 (by decide)]; omega), ⟨by rw [hK 0 (by decide)]; exact h2.1, by rw [h6 16 (by decide)]; exact h2.2⟩, h3.fp h1.born (FP.of (fun g a b => hm g (by omega)))⟩
theorem call_tick {G : Int} (hC : CI As Bs A B G n m) (hO : JOut n m) (hG : G < 370000000) (h25 : m 25 0 ≤ 900000) :
    ∃ r n' m', N_H_tick v n = some (r, n') ∧ N_Y_tick v m = some (r, m') ∧ CI As Bs A B (G + 470000) n' m' ∧ JOut n' m' ∧ FZ n n' m m' ∧ m' 25 0 ≤ m 25 0 + 1000 ∧ (∀ f, f ≤ 5 → m' f = m f) ∧ (n' 4 605 = n 4 605 ∧ bt n' 605 = bt n 605) := by
  have same : N_H_tick v n = some (-1, n) → N_Y_tick v m = some (-1, m) → ∃ r n' m', N_H_tick v n = some (r, n') ∧ N_Y_tick v m = some (r, m') ∧ CI As Bs A B (G + 470000) n' m' ∧ JOut n' m' ∧ FZ n n' m m' ∧ m' 25 0 ≤ m 25 0 + 1000 ∧ (∀ f, f ≤ 5 → m' f = m f) ∧ (n' 4 605 = n 4 605 ∧ bt n' 605 = bt n 605) := fun e1 e2 => ⟨-1, n, m, e1, e2, hC.mono (by omega), hO, FZ.refl n m, by omega, fun _ _ => rfl, rfl, rfl⟩
  by_cases v0 : v < 0
  · refine same ?_ ?_
    · unfold N_H_tick; rw [if_pos v0]
    · unfold N_Y_tick; rw [if_pos v0]
  · by_cases v1 : 1000 < v
    · refine same ?_ ?_
      · unfold N_H_tick; rw [if_neg v0, if_pos v1]
      · unfold N_Y_tick; rw [if_neg v0, if_pos v1]
    · have hcl := hC.1.clk
      have C9 := hC.clk (v := v) ⟨by omega, by omega⟩
      generalize hn9 : nw n 6 0 12 (n 6 0 12 + v) = n9 at *
      generalize hm9 : yw m 25 0 (m 25 0 + v) = m9 at *
      obtain ⟨n14, m14, b1, b2, b3, b4, b5, b6, b7, b8, b9, b10, b11, b12, b13⟩ := begin_both C9
      have hW : WYE As Bs A B (G + 6) n14 m14 := ⟨b3.1, b4, b3.2.1, ⟨.inl b6.2.2.2.1, b6.1, b6.2.1⟩, .inr ⟨by rw [b5.2.2.2.2, b5.1]; exact Int.le_refl _, by rw [b5.2.2.1, b5.2.1]; exact Int.le_refl _, b5.2.2.2.1⟩, b3.2.2⟩
      have tk := hW.1.tkb
      have e158 := b6.2.2.2.2
      obtain ⟨r, n', m', z1, z2, z3, z4, z5⟩ := tick_loop (m14 166 0 + 21 * (200 - m14 158 0)).toNat 0 0 (G + 6) n14 m14 (Nat.le_refl _) hW (Int.le_refl _) (by omega) (Int.le_refl _) (by omega) (by omega)
      have k9 : ∀ K, K ≠ 6 → n9 K = n K := fun K hK => by rw [← hn9, nw_nK hK]
      have y9 : ∀ g, g ≠ 25 → m9 g = m g := fun g hg => by rw [← hm9, yw_nF hg]
      have fzA : FZ n n9 m m9 := ⟨fun K c => k9 K (fun w => c (by rw [w]; decide)), FS.ks (k9 4 (by decide)) (k9 99 (by decide)), fun s _ => by rw [k9 0 (by decide)], fun g hg => y9 g (by omega), .inr ⟨by rw [k9 10 (by decide)], fun g a b => y9 g (by omega)⟩, .inr ⟨by rw [y9 126 (by decide)], fun g a b => y9 g (by omega)⟩⟩
      have fcE := b7.trans z4
      have O9 : JOut n9 m9 := by
        unfold JOut bt ys at *
        rw [k9 4 (by decide), k9 99 (by decide), y9 4 (by decide), y9 5 (by decide)]; exact hO
      refine ⟨r, n', m', ?_, ?_, z3.ci.mono (by omega), O9.fc fcE, fzA.trans fcE.fz, ?_, fun f hf => by rw [fcE.2.1 f (by omega), y9 f (by omega)], ?_, ?_⟩
      · unfold N_H_tick ck st
        dsimp only
        rw [if_neg v0, if_neg v1, if_pos (by omega), hn9, b1]
        simp only [Option.bind_some]
        rw [z1]; rfl
      · unfold N_Y_tick
        rw [if_neg v0, if_neg v1]
        have eB : ∃ mB, N_Y_begin m = some mB ∧ yw mB 25 0 (mB 25 0 + v) = m14 ∧ mB 25 0 = m 25 0 := by
          refine ⟨_, rfl, ?_, rfl⟩
          have : N_Y_begin m9 = some (yw (yw (yw (yw (yw m9 152 0 0) 153 0 0) 154 0 0) 163 0 0) 158 0 0) := rfl
          rw [b2] at this
          cases this
          rw [← hm9]
          funext a b
          simp only [yw_app]
          by_cases u : a = 25 ∧ b = 0
          · rw [if_pos u, if_neg (by omega), if_neg (by omega), if_neg (by omega), if_neg (by omega), if_neg (by omega), if_pos u]
            rw [if_neg (by omega), if_neg (by omega), if_neg (by omega), if_neg (by omega), if_neg (by omega)]
          · rw [if_neg u, if_neg u]
        obtain ⟨mB, q1, q2, q3⟩ := eB
        rw [q1]
        simp only [Option.bind_some]
        unfold ck st
        dsimp only
        rw [if_pos (by omega), q2, z2]; rfl
      · rw [fcE.2.1 25 (by omega), ← hm9, yw_eq]; omega
      · rw [(fcE.1.2.1 605 (by decide) (by decide) (by omega)).1, k9 4 (by decide)]
      · rw [fcE.1.2.1.bt (b := 605) (by omega) (by omega)]
        unfold bt
        rw [k9 4 (by decide), k9 99 (by decide)]
end O9
