/-! WHAT A PIECE AND A TEXT MEASURE, in both -/
section Y8
variable {n n' n'' : NS} {m m' m'' : YS} {A B N a b c x y q s E v u w t k j r i L I X h fw : Int} {o e p g : Int → Int}
/-- a piece -/
theorem meas_piece (hT : JT n m N o e p) (hS : LSt n N o e) (hK : LKs n m N o) (hB : BI A B n) (hW : WL1 n) (k0 : 0 ≤ k) (hkN : k < N) (h0 : 0 ≤ h) (hhN : h < N) (hne : o h ≠ o k) (hv12 : 12 ≤ m 46 (o k) ∧ m 46 (o k) ≤ 14) (hq17 : m 46 (o h) ≠ 17) (h1 : n 3 (o k) 1 = o h) (h109 : m 109 (o k) = o h) (hbq : BXf n m (o h) (o h)) (hbv : BXf n m (o k) (o k)) (hq4 : n 3 (o h) 4 = m 112 (o h) ∧ 0 ≤ n 3 (o h) 4 ∧ n 3 (o h) 4 ≤ 1300000) :
    ∃ n' W H, N_Layout_measurePiece (o k) (m 46 (o k)) (o k) n = some n' ∧ N_Y_measure (o k) m = some (yw (yw m 112 (o k) W) 113 (o k) H) ∧ (0 ≤ W ∧ W ≤ 1300000) ∧ (0 ≤ H ∧ H ≤ 200) ∧ F1s A B (o k) n n' ∧ n' 3 (o k) 4 = W ∧ n' 3 (o k) 5 = H ∧ (∀ s, s ≠ 4 → s ≠ 5 → n' 3 (o k) s = n 3 (o k) s) := by
  have hG := hT.1.1
  have hv := hG.oB k0 hkN
  have hq := hG.oB h0 hhN
  have hv17 : m 46 (o k) ≠ 17 := by omega
  have hLv := hK k k0 hkN hv17
  obtain ⟨I, hI⟩ : ∃ I, I = max 0 (n 3 (o h) 4 - 2 * n 3 (o h) 8) := ⟨_, rfl⟩
  obtain ⟨E, hE⟩ : ∃ E, E = n 3 (o k) 8 := ⟨_, rfl⟩
  obtain ⟨L, hL⟩ : ∃ L, L = m 105 (11 * o k + 6) := ⟨_, rfl⟩
  obtain ⟨D, hD⟩ : ∃ D, D = m 105 (11 * o k + 7) := ⟨_, rfl⟩
  obtain ⟨S, hSd⟩ : ∃ S, S = n 3 (o k) 11 := ⟨_, rfl⟩
  obtain ⟨T, hTd⟩ : ∃ T, T = (oLn m o k (e k - k).toNat).2.1 * S := ⟨_, rfl⟩
  obtain ⟨⟨v6, v7, v8⟩, ⟨v9, v10, v11, v12⟩, b6, b7, b8, b11, b9, b10, b12⟩ := hbv
  obtain ⟨⟨q6, q7, q8⟩, ⟨q9, q10, q11, q12⟩, c6, c7, c8, c11, c9, c10, c12⟩ := hbq
  have hTb := oLn_b hT k0 hkN b11
  rw [← hSd, ← hTd] at hTb
  have hLb := (hLv 6 (by decide) (by decide)).2.2.2.2.2.2.2.2.2.1 rfl
  have hDb := (hLv 7 (by decide) (by decide)).2.2.2.2.2.2.2.2.2.2.1 rfl
  have h4b := (hLv 4 (by decide) (by decide)).2.2.2.2.2.2.2.1 rfl
  have h5b := (hLv 5 (by decide) (by decide)).2.2.2.2.2.2.2.2.1 rfl
  have hqv := hK h h0 hhN hq17
  have g4b := (hqv 4 (by decide) (by decide)).2.2.2.2.2.2.2.1 rfl
  have g5b := (hqv 5 (by decide) (by decide)).2.2.2.2.2.2.2.2.1 rfl
  rw [← hL] at hLb
  rw [← hD] at hDb
  have hIb : 0 ≤ I ∧ I ≤ 1300000 := by omega
  have hWb : ∀ X, 0 ≤ X → X ≤ 1300000 → 0 ≤ toW I L X ∧ toW I L X ≤ 1300000 := fun X x y => by
    by_cases z : L = -1
    · have : toW I L X = X := by unfold toW; rw [if_pos z]
      omega
    · have := toW_b (X := X) hIb hLb z
      omega
  have hyW : ∀ X, (if toW I L (-1) = -1 then X else toW I L (-1)) = toW I L X := fun X => by
    by_cases z : L = -1
    · have e1 : toW I L (-1) = -1 := by unfold toW; rw [if_pos z]
      rw [if_pos e1]; unfold toW; rw [if_pos z]
    · have := toW_b (X := X) hIb hLb z
      rw [this.2.2, if_neg (by omega)]
  have hR := F1s.refl (v := o k) hB hW
  have htold : ∀ X, N_Layout_widthTold (o k) X n = some (toW I L X) := fun X => by
    have := c_told (X := X) (L := L) (by rw [c_look hK k0 hkN hv hv17 (by decide), hL]) hv h1 hq c8 hq4.2 (by omega)
    rw [← hI] at this; exact this
  have hytold := y_told (m := m) hv hL.symm hIb hLb
  have hyin : N_Y_inner (o h) m = some I := by rw [y_inner hq (by omega) (by omega), ← q8, ← hq4.1, ← hI]
  have sl : ∀ x y s, s ≠ 4 → s ≠ 5 → nw (nw n 3 (o k) 4 x) 3 (o k) 5 y 3 (o k) s = n 3 (o k) s := fun x y s h4 h5 => by rw [nw_ns h5, nw_ns h4]
  have hyS : N_Y_of (o k) 8 m = some S := by rw [y_of hv (by decide), ← v11, hSd]
  unfold N_Layout_measurePiece N_Y_measure nk_Y_measure_118 nk_Y_measure_56 nk_Y_measure_85 nk_Layout_measurePiece_50 st
  rw [← hSd, ck_e _ (by omega), hyS, h109, hyin]
  simp only [Option.bind_some, hytold, htold, ix_e (L := 120) _ hv]
  by_cases z12 : m 46 (o k) = 12
  · have hlk : N_Layout_look (o k) 7 (nw n 3 (o k) 4 (toW I L 8)) = some D := by
      have : nw n 3 (o k) 4 (toW I L 8) 41 = n 41 := nw_nK (by decide)
      have g := c_look hK k0 hkN hv hv17 (pr := 7) (by decide)
      unfold N_Layout_look at g ⊢
      rw [this, hD]; exact g
    have hyk : ∀ y, N_Y_of (o k) 7 (yw m 112 (o k) y) = some D := fun y => by rw [y_of hv (by decide), yw_nF (by decide), hD]
    rw [if_pos z12, if_pos z12, hlk]
    simp only [Option.bind_some, hyk]
    have hb8 := hWb 8 (by decide) (by decide)
    have hy8 := hyW 8
    refine ⟨nw (nw n 3 (o k) 4 (toW I L 8)) 3 (o k) 5 (if D = -1 then 8 else D), toW I L 8, if D = -1 then 8 else D, ?_, ?_, hb8, ?_, hR.wr.wr, by rw [nw_ns (by decide), nw_eq], nw_eq, sl _ _⟩
    · by_cases zD : D = -1
      · rw [if_pos zD, if_pos zD]
      · rw [if_neg zD, if_neg zD]
    · rw [← hy8]
      by_cases zW : toW I L (-1) = -1
      · rw [if_pos zW, if_pos zW]
        by_cases zD : D = -1
        · rw [if_pos zD, if_pos zD]
        · rw [if_neg zD, if_neg zD]
      · rw [if_neg zW, if_neg zW]
        by_cases zD : D = -1
        · rw [if_pos zD, if_pos zD]
        · rw [if_neg zD, if_neg zD]
    · clear hyW hWb hy8 htold hyk
      split <;> omega
  · by_cases z13 : m 46 (o k) = 13
    · rw [if_neg z12, if_neg z12, if_pos z13, if_pos z13]
      have hy8 := hyW 24
      simp only [ck_e _ (show -10000000 ≤ 7 * S + 4 ∧ 7 * S + 4 ≤ 10000000 by omega), ck_e _ (show -10000000 ≤ 7 * S ∧ 7 * S ≤ 10000000 by omega)]
      refine ⟨_, toW I L 24, 7 * S + 4, rfl, ?_, hWb 24 (by decide) (by decide), by omega, hR.wr.wr, by rw [nw_ns (by decide), nw_eq], nw_eq, sl _ _⟩
      rw [← hy8]
      by_cases zW : toW I L (-1) = -1
      · rw [if_pos zW, if_pos zW]
      · rw [if_neg zW, if_neg zW]
    · rw [if_neg z12, if_neg z12, if_neg z13, if_neg z13]
      obtain ⟨⟨z, n2⟩, e1, e2, e3, e4, _⟩ := c_textW hB hT hS k0 hkN b11
      simp only at e2 e3 e4
      rw [← hSd] at e1 e2
      rw [e2, ← hTd] at e1
      have e43 : n2 3 = n 3 := e4.1 3 (by decide) (by decide) (by decide) (by decide) (by decide) (by decide)
      have hyt := y_textW hT k0 hkN (m' := m) (s := S) (by rw [← v11, hSd]; exact ⟨rfl, b11⟩) (fun _ _ _ => rfl)
      rw [← hTd] at hyt
      have hed : ∀ m2 : YS, m2 105 = m 105 → N_Y_edges (o k) m2 = some E := fun m2 e => by rw [y_edges hv (by rw [e]; omega), e, ← v8, hE]
      have hR2 := hR.tw e4 e3
      have s8 : n2 3 (o k) 8 = E := by rw [e43, hE]
      rw [e1, hyt]
      simp only [Option.bind_some, u2]
      rw [hed m rfl, s8, nw_ns (by decide), s8]
      simp only [Option.bind_some]
      rw [hed (yw m 112 (o k) (T + 2 * E)) (yw_nF (by decide))]
      simp only [Option.bind_some]
      simp only [ck_e _ (show -10000000 ≤ 2 * E ∧ 2 * E ≤ 10000000 by omega), ck_e _ (show -10000000 ≤ T + 2 * E ∧ T + 2 * E ≤ 10000000 by omega), ck_e _ (show -10000000 ≤ 7 * S + 2 * E ∧ 7 * S + 2 * E ≤ 10000000 by omega), ck_e _ (show -10000000 ≤ 7 * S ∧ 7 * S ≤ 10000000 by omega)]
      exact ⟨_, _, _, rfl, rfl, by omega, by omega, hR2.wr.wr, by rw [nw_ns (by decide), nw_eq], nw_eq, fun s x y => by rw [nw_ns y, nw_ns x, e43]⟩
/-- a TEXT -/
theorem meas_text (hB : BI A B n) (hW : WL1 n) (hd : ND n m v) (hv : 0 ≤ v ∧ v < 120) (h17 : m 46 v = 17) (h1 : n 3 v 1 = q) (h109 : m 109 v = q) (h11 : n 3 v 11 = m 105 (11 * m 49 v + 8) ∧ 1 ≤ n 3 v 11 ∧ n 3 v 11 ≤ 3 ∧ 0 ≤ m 49 v ∧ m 49 v < 120) (hf : n 5 0 6 = fw ∧ m 117 0 = fw ∧ m 116 v = fw) (hfb : 0 ≤ fw ∧ fw + 200 ≤ 24000) :
    ∃ n' m', N_Layout_listWords v (5 * v) v n = some n' ∧ N_Y_split v m = some m' ∧ TXw n' m' q v ∧ F1n n n' ∧ (∀ a, a ≠ v → n' 3 a = n 3 a) ∧ (∀ s, s ≠ 18 → s ≠ 19 → n' 3 v s = n 3 v s) ∧ WKp n n' ∧ BI A B n' ∧ WL1 n' ∧ (n' 5 0 6 = m' 117 0 ∧ n' 5 0 6 ≤ n 5 0 6 + 200 ∧ n' 5 0 6 = n 5 0 6 + n' 3 v 19) ∧ F1w fw m m' := by
  obtain ⟨t1, t2, t3, _⟩ := tx_node hB hd hv h17
  have hR := (F1s.refl (v := v) hB hW).wr (s := 18) (x := fw)
  obtain ⟨n3, hn3⟩ : ∃ n3, n3 = nw n 3 v 18 fw := ⟨_, rfl⟩
  rw [← hn3] at hR
  have e4 : n3 4 = n 4 := by rw [hn3]; exact nw_nK (by decide)
  have s3 : ∀ s, s ≠ 18 → n3 3 v s = n 3 v s := fun s x => by rw [hn3]; exact nw_ns x
  have hp0 : pE m v (fw + 0) = 0 := by unfold pE; rw [if_pos (by omega)]
  have hI : WLI A B v fw 0 0 n3 m := ⟨⟨hR.2.2.2.1, hR.2.2.2.2.1⟩, ⟨by rw [hR.2.2.2.2.2, hf.1]; omega, by omega, by omega, by omega⟩, ⟨hf.2.2, hfb⟩, fun w x y => by omega, by rw [hp0]; exact ⟨by omega, by omega, t2.1, fun j x y => by omega⟩⟩
  obtain ⟨n', m', c', i', r1, r2, r3, r4, r5, r6, r7, r8, r9⟩ := list_loop (s := n 3 v 11) hv ⟨h11.2.1, h11.2.2.1⟩ _ 0 0 n3 m (Nat.le_refl _) (Int.le_refl _) t2 (by omega) hI (s3 11 (by decide)) (by rw [e4]; exact t1) (tx_f1 hB hW.1 hR.1 (by omega) t3)
  obtain ⟨⟨w1, w2⟩, ⟨w3, w4, w5, w6⟩, ⟨w7, w8⟩, w9, w10⟩ := r3
  have y9 : ∀ f, f ∉ [117, 118, 119, 120, 123] → m' f = m f := r9.1
  have hc : c' ≤ 200 := by omega
  have n18 : n' 3 v 18 = fw := by rw [r6, hn3, nw_eq]
  have hF2 := F1s.wr (s := 19) (x := c') (F1s.refl (v := v) w1 w2)
  obtain ⟨n7, hn7⟩ : ∃ n7, n7 = nw n' 3 v 19 c' := ⟨_, rfl⟩
  rw [← hn7] at hF2
  have s7 : ∀ s, s ≠ 18 → s ≠ 19 → n7 3 v s = n 3 v s := fun s x y => by rw [hn7, nw_ns y, r6]; exact s3 s x
  have s719 : n7 3 v 19 = c' := by rw [hn7, nw_eq]
  have s718 : n7 3 v 18 = fw := by rw [hn7, nw_ns (by decide)]; exact n18
  have e75 : n7 5 = n' 5 := hF2.2.2.2.2.2
  have e99 : n7 99 = n' 99 := by rw [hn7]; exact nw_nK (by decide)
  refine ⟨n7, m', ?_, ?_, ?_, hR.1.trans (r5.trans hF2.1), fun a ha => by rw [hF2.2.1 a ha, r6]; exact hR.2.1 a ha, s7, ?_, hF2.2.2.2.1, hF2.2.2.2.2.1, ⟨by rw [e75]; omega, by rw [e75]; omega, by rw [e75, s719]; omega⟩, r9⟩
  · unfold N_Layout_listWords st
    dsimp only
    rw [hf.1, ← hn3, r1]
    simp only [Option.bind_some]
    rw [n18, w3, ck_e _ (by omega), show fw + c' - fw = c' by omega, hn7]
  · unfold N_Y_split
    rw [ix_e _ hv, y_of h11.2.2.2 (by decide), ← h11.1]
    simp only [Option.bind_some]
    rw [r2]; rfl
  · refine ⟨hv, ?_, ?_, ?_, fun i x y => ?_, ?_⟩
    · rw [show n7 4 = n 4 by rw [hn7, nw_nK (by decide), r7, e4], y9 62 (by decide)]; exact ⟨t1, t2⟩
    · rw [s718, s719, y9 116 (by decide), e75]; omega
    · rw [s7 11 (by decide) (by decide), y9 105 (by decide), y9 49 (by decide)]; exact h11
    · rw [s719] at y
      rw [w7] at x y
      obtain ⟨d1, d2, d3, d4, d5, d6⟩ := w9 i x y
      refine ⟨⟨by omega, by rw [e75]; omega, by rw [e99, e75, d1.1, d1.2], by rw [d1.2]; exact hv, by rw [d1.2, s7 11 (by decide) (by decide), y9 105 (by decide), y9 49 (by decide)]; exact h11.1, by rw [d1.2, s7 11 (by decide) (by decide)]; omega, by rw [d1.2, y9 49 (by decide)]; omega, by rw [d1.2, s7 1 (by decide) (by decide)]; exact h1, by rw [d1.2, y9 109 (by decide)]; exact h109⟩, d1.2, by rw [e99, e75]; exact d2, ⟨d3.1, d3.2.1, by rw [s7 11 (by decide) (by decide), d3.2.2, r6, s3 11 (by decide)]⟩, d4, d5, d6⟩
    · rw [w7, s719]
      exact ⟨w10.1, by rw [y9 62 (by decide)]; rw [y9 62 (by decide)] at w10; exact w10.2.2.1, fun j x y => by
        rw [y9 62 (by decide)] at y w10
        exact w10.2.2.2 j x (by omega) y⟩
  · have k1 := hR.2.2.1
    have k3 := hF2.2.2.1
    refine ⟨by have := k1.1; have := r8.1; have := k3.1; omega, fun j x y => ?_⟩
    have g1 := k1.1
    have g2 := r8.1
    rw [k3.2 j x (by omega), r8.2 j x (by omega), k1.2 j x y]
end Y8
