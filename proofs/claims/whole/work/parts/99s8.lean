/-! THE CALL select -/
section S8
variable {n n' n1 : NS} {m m' : YS} {A B N δ G k : Int} {o e p : Int → Int} {As Bs : Int → Prop} {κ : Int → Int}
/-- what acts don't hold has changed -/
theorem JA.ko (h : JA As Bs A B δ G n m) (hB' : BI A B n') (hK : ∀ K, K ∈ [0, 4, 6, 7, 8, 10, 18, 21, 22, 23, 24, 25, 26, 27, 28, 29, 44, 45, 90, 92, 93, 99] → n' K = n K) (hm : ∀ f, (6 ≤ f ∧ f ≤ 72) ∨ (148 ≤ f ∧ f ≤ 151) ∨ (155 ≤ f ∧ f ≤ 157) ∨ (166 ≤ f ∧ f ≤ 178) → m' f = m f) : JA As Bs A B δ G n' m' := by
  obtain ⟨κ, N, o, e, p, ⟨hJ, hH, hP⟩, h2, h3, ⟨h4, h4'⟩, h5, h6, h7, h8⟩ := h
  have fq : FQ As Bs (fun _ => False) n n' := FQ.ks (fun K c => hK K (by simp only [List.mem_cons, List.not_mem_nil, or_false]; omega))
  have r : ∀ r, RwE m m' r := fun r => RwE.of (hm 6 (by omega)) (hm 7 (by omega)) (hm 8 (by omega))
  have e0 : n' 0 = n 0 := hK 0 (by decide)
  have e6 : n' 6 = n 6 := hK 6 (by decide)
  have e99 : n' 99 = n 99 := hK 99 (by decide)
  have e4 : n' 4 = n 4 := hK 4 (by decide)
  have ebt : ∀ b, bt n' b = bt n b := fun b => by unfold bt; rw [e99, e4]
  have liv : LIV m m' := LIV.of (hm 45 (by omega)) (hm 46 (by omega)) (hm 55 (by omega))
  have e69 : m' 69 = m 69 := hm 69 (by omega)
  have c69 : m 69 0 ≤ m' 69 0 := by rw [e69]; exact Int.le_refl _
  have f7 : FQ7 n n' := fun a _ _ _ => by rw [e99]
  refine ⟨κ, N, o, e, p, ⟨hJ.cg hB' fq f7 (fun _ y => y.elim) (fun K c => hK K (by simp only [List.mem_cons, List.not_mem_nil, or_false]; omega)) (fun s _ => by rw [e6]) (ebt 607) (fun f a b => hm f (by omega)) (fun x _ => r x), hH.cg fq (fun _ y => y.elim) (by rw [e6]; exact ⟨rfl, rfl⟩) (hK 27 (by decide)) ⟨hm 148 (by omega), hm 149 (by omega)⟩ (fun x _ _ => r x), hP.fq fq hJ.2.1.2.2.1.2.1 (fun y => y.elim) (r 1)⟩, h2.cg (fun K c => hK K (by simp only [List.mem_cons, List.not_mem_nil, or_false]; omega)) (fun b _ _ => ebt b) (fun f a b => hm f (by omega)), fun k a b => by rw [hK 21 (by decide)]; exact h3 k a b, ⟨h4.cg (by rw [e0]) (hK 44 (by decide)) (hK 45 (by decide)) (fun b _ _ => ebt b) (fun f a b => hm f (by omega)), h4'.liv h4 (fun f hf => hm f (by omega)) liv c69⟩, h5.cg (hK 26 (by decide)) (by rw [e6]) (fun f a b => hm f (by omega)), ?_, h7.liv (by rw [e0]) (hm 150 (by omega)) (hm 151 (by omega)) liv c69, ?_⟩
  · unfold JCt at *
    rw [e0, hm 155 (by omega), hm 156 (by omega), hm 157 (by omega)]; exact h6
  · unfold gB at *
    rw [hK 10 (by decide), hm 35 (by omega), e69, hm 155 (by omega), hm 156 (by omega), hm 157 (by omega), hm 167 (by omega)]
    exact h8
theorem CI.ko (h : CI As Bs A B G n m) (hB' : BI A B n') (hK : ∀ K, K ∈ [0, 4, 6, 7, 8, 10, 18, 21, 22, 23, 24, 25, 26, 27, 28, 29, 44, 45, 90, 92, 93, 99] → n' K = n K) (hm : ∀ f, (6 ≤ f ∧ f ≤ 72) ∨ (148 ≤ f ∧ f ≤ 151) ∨ (155 ≤ f ∧ f ≤ 157) ∨ (166 ≤ f ∧ f ≤ 178) → m' f = m f) : CI As Bs A B G n' m' :=
  ⟨h.1.ko hB' hK hm, by rw [hK 0 (by decide), hK 6 (by decide)]; exact h.2.1, h.2.2.fp h.1.born (FP.of (fun f a b => hm f (by omega)))⟩
/-- the ELEMENTS that match -/
theorem find_both (hB : BI A B n) (hT : JT n m N o e p) (hH : SHc n) (hS : SL n m 40) : ∃ r n' m', N_H_listMatches n = some (r, n') ∧ (NL_Y_select_70 0 (yw m 185 0 0)).bind (fun m36 => some ((m36 185 0), m36)) = some (r, m') ∧ JM n' m' ∧ FY [184, 185] m m' ∧ BI A B n' ∧ JT n' m' N o e p ∧ ∃ n1, FL n n1 ∧ (∀ K, K ≠ 11 → K ≠ 47 → n' K = n1 K) ∧ (∀ s, s ≠ 9 → n' 11 0 s = n1 11 0 s) := by
  have hB1 : BI A B (nw n 11 0 9 0) := hB.cg (nw_nK (by decide)) (by rw [nw_nK (by decide)]; exact ⟨rfl, rfl⟩) (nw_nK (by decide)) (nw_nK (by decide)) (nw_nK (by decide)) (nw_nK (by decide))
  have hT1 : JT (nw n 11 0 9 0) m N o e p := hT.ks (fun K hK => nw_nK (by omega))
  obtain ⟨n7, a1, a2, a3, a4, a5⟩ := hT1.list hB1
  have hG := a2.1.1
  have hN := hG.1
  -- both loops
  have key : ∀ (z : Nat) (k : Int) (n8 : NS) (m8 : YS), (N - k).toNat ≤ z → (0 ≤ k ∧ k ≤ N) → (∀ K, K ≠ 11 → K ≠ 47 → n8 K = n7 K) → (∀ s, s ≠ 9 → n8 11 0 s = n7 11 0 s) → FY [184, 185] m m8 → (n8 11 0 9 = m8 185 0 ∧ 0 ≤ m8 185 0 ∧ m8 185 0 ≤ k) → (∀ j, 0 ≤ j → j < m8 185 0 → n8 47 0 j = m8 184 j) → ∃ n9 m9, NL_H_listMatches_14 k n8 = some n9 ∧ NL_Y_select_70 (if k < N then o k else -1) m8 = some m9 ∧ (∀ K, K ≠ 11 → K ≠ 47 → n9 K = n7 K) ∧ (∀ s, s ≠ 9 → n9 11 0 s = n7 11 0 s) ∧ FY [184, 185] m m9 ∧ JM n9 m9 := by
    intro z
    induction z with
    | zero =>
      intro k n8 m8 hz hk q1 q2 q3 q4 q5
      refine ⟨n8, m8, ?_, ?_, q1, q2, q3, ⟨q4.1, q4.2.1, by omega, q5⟩⟩
      · unfold NL_H_listMatches_14
        refine it_inr ?_
        show nb_H_listMatches_14 k n8 = _
        unfold nb_H_listMatches_14
        rw [q1 10 (by decide) (by decide), a3.1, if_neg (by omega)]
      · rw [if_neg (by omega)]
        unfold NL_Y_select_70
        refine it_inr ?_
        show nb_Y_select_70 (-1) m8 = _
        unfold nb_Y_select_70
        rw [if_pos rfl]
    | succ z ih =>
      intro k n8 m8 hz hk q1 q2 q3 q4 q5
      by_cases hlt : k < N
      · have hv := hG.oB hk.1 hlt
        have hB8 : BI A B n8 := a5.cg (q1 4 (by decide) (by decide)) (by rw [q1 5 (by decide) (by decide)]; exact ⟨rfl, rfl⟩) (q1 90 (by decide) (by decide)) (q1 91 (by decide) (by decide)) (q1 92 (by decide) (by decide)) (q1 93 (by decide) (by decide))
        have hT8 : JT n8 m N o e p := a2.ks (fun K hK => q1 K (by omega) (by omega))
        have hH8 : SHc n8 := by unfold SHc at *; rw [q1 9 (by decide) (by decide), a4.1 9 (by decide) (by decide) (by decide), nw_nK (by decide)]; exact hH
        have hT8' : JT n8 m8 N o e p := hT8.fb hB8 (FB.refl (fun _ => False) n8) (fun x hx => hx.elim) (fun f a b => q3 f (by simp only [List.mem_cons, List.not_mem_nil, or_false, not_or]; omega))
        have e8 : ∀ K, 32 ≤ K → K ≤ 38 → n8 K = n K := fun K x y => by rw [q1 K (by omega) (by omega), a4.1 K (by omega) (by omega) (by omega), nw_nK (by omega)]
        have ey : ∀ f, 90 ≤ f → f ≤ 97 → m8 f = m f := fun f x y => q3 f (by simp only [List.mem_cons, List.not_mem_nil, or_false, not_or]; omega)
        have hS8 : SL n8 m8 40 := by
          obtain ⟨s1, s2, s3, s4, s5⟩ := hS
          unfold SL
          rw [e8 32 (by decide) (by decide), e8 33 (by decide) (by decide), ey 90 (by decide) (by decide), ey 97 (by decide) (by decide)]
          exact ⟨s1, s2, s3, s4, fun j x y => (s5 j x y).cg (by rw [e8 35 (by decide) (by decide), e8 36 (by decide) (by decide)]; exact ⟨rfl, rfl⟩) (fun c _ _ => by rw [e8 37 (by decide) (by decide), e8 38 (by decide) (by decide), ey 94 (by decide) (by decide), ey 95 (by decide) (by decide)]; exact ⟨⟨rfl, rfl⟩, rfl, rfl⟩) (by rw [ey 91 (by decide) (by decide), ey 93 (by decide) (by decide)]; exact ⟨rfl, rfl⟩) (fun i _ _ => by rw [ey 92 (by decide) (by decide)]) (fun i _ _ => by rw [ey 96 (by decide) (by decide)])⟩
        have hl := a3.2 k hk.1 hlt
        have o22 : n8 22 0 k = o k := by rw [q1 22 (by decide) (by decide)]; exact hl.1
        have tag : n8 7 (o k) 0 = m8 46 (o k) := (hT8'.2.2.2 k hk.1 hlt).1.1
        have nxt : N_Y_after (o k) 0 m8 = some (if k + 1 < N then o (k + 1) else -1) := by
          have := y_after (t := 0) (k := k) hT8'.1.1 (Int.le_refl _) hk.1 (by rw [hN.2.2.2.1]; exact hlt) (by omega)
          rw [hN.2.2.1, hN.2.2.2.1] at this; exact this
        have cb0 : nb_H_listMatches_14 k n8 = if m8 46 (o k) = 17 then some (.inl (k + 1, n8)) else (N_Sheet_isMatch 40 (o k) n8).bind fun z17 => if z17 = 0 then some (.inl (k + 1, n8)) else ix (n8 11 0 9) 120 <| st (nw n8 47 0 (n8 11 0 9) (o k)) fun n25 => ck ((n25 11 0 9) + 1) <| st (nw n25 11 0 9 ((n25 11 0 9) + 1)) fun n31 => some (.inl (k + 1, n31)) := by
          unfold nb_H_listMatches_14
          rw [q1 10 (by decide) (by decide), a3.1, if_pos hlt, ix_e _ (by omega), o22, ix_e _ hv, tag]
          simp only [ck_e (a := k + 1) _ (show -10000000 ≤ k + 1 ∧ k + 1 ≤ 10000000 by omega)]
        have yb0 : nb_Y_select_70 (o k) m8 = if m8 46 (o k) = 17 then nk_Y_select_116 (o k) m8 else (N_Y_matches (o k) 40 m8).bind fun z7 => if z7 = 0 then nk_Y_select_116 (o k) m8 else ix (m8 185 0) 120 <| st (yw m8 184 (m8 185 0) (o k)) fun m14 => ck ((m14 185 0) + 1) <| st (yw m14 185 0 ((m14 185 0) + 1)) fun m20 => nk_Y_select_116 (o k) m20 := by
          unfold nb_Y_select_70
          rw [if_neg (by omega), ix_e _ hv]
        have n116 : nk_Y_select_116 (o k) m8 = some (.inl (if k + 1 < N then o (k + 1) else -1, m8)) := by
          unfold nk_Y_select_116; rw [nxt]; rfl
        have go : ∀ (n9 : NS) (m9 : YS), nb_H_listMatches_14 k n8 = some (.inl (k + 1, n9)) → nb_Y_select_70 (o k) m8 = some (.inl (if k + 1 < N then o (k + 1) else -1, m9)) → (∀ K, K ≠ 11 → K ≠ 47 → n9 K = n7 K) → (∀ s, s ≠ 9 → n9 11 0 s = n7 11 0 s) → FY [184, 185] m m9 → (n9 11 0 9 = m9 185 0 ∧ 0 ≤ m9 185 0 ∧ m9 185 0 ≤ k + 1) → (∀ j, 0 ≤ j → j < m9 185 0 → n9 47 0 j = m9 184 j) → ∃ n9 m9, NL_H_listMatches_14 k n8 = some n9 ∧ NL_Y_select_70 (if k < N then o k else -1) m8 = some m9 ∧ (∀ K, K ≠ 11 → K ≠ 47 → n9 K = n7 K) ∧ (∀ s, s ≠ 9 → n9 11 0 s = n7 11 0 s) ∧ FY [184, 185] m m9 ∧ JM n9 m9 := fun n9 m9 b1 b2 w1 w2 w3 w4 w5 => by
          obtain ⟨n', m', r1, r2, r3⟩ := ih (k + 1) n9 m9 (by omega) (by omega) w1 w2 w3 w4 w5
          refine ⟨n', m', ?_, ?_, r3⟩
          · rw [← r1]
            unfold NL_H_listMatches_14
            exact it_inl (f := fun t : Int × NS => nb_H_listMatches_14 t.1 t.2) (s := (k, n8)) b1
          · rw [← r2, if_pos hlt]
            unfold NL_Y_select_70
            exact it_inl (f := fun t : Int × YS => nb_Y_select_70 t.1 t.2) (s := (o k, m8)) b2
        by_cases z17 : m8 46 (o k) = 17
        · rw [if_pos z17] at cb0 yb0
          exact go n8 m8 cb0 (yb0.trans n116) q1 q2 q3 ⟨q4.1, q4.2.1, by omega⟩ q5
        · rw [if_neg z17] at cb0 yb0
          obtain ⟨r, r1, r2⟩ := match_both hB8 hT8' hH8 (by omega) hS8 ⟨hk.1, hlt⟩
          rw [r1] at cb0
          rw [r2] at yb0
          simp only [Option.bind_some] at cb0 yb0
          by_cases zr : r = 0
          · rw [if_pos zr] at cb0 yb0
            exact go n8 m8 cb0 (yb0.trans n116) q1 q2 q3 ⟨q4.1, q4.2.1, by omega⟩ q5
          · rw [if_neg zr] at cb0 yb0
            have h120 := hN.2.1
            rw [q4.1, ix_e _ (by omega)] at cb0
            rw [ix_e _ (by omega)] at yb0
            unfold st at cb0 yb0
            dsimp only at cb0 yb0
            rw [nw_nK (show (11 : Nat) ≠ 47 by decide), q4.1, ck_e _ (by omega)] at cb0
            rw [yw_nF (show (185 : Nat) ≠ 184 by decide), ck_e _ (by omega)] at yb0
            have nx2 : nk_Y_select_116 (o k) (yw (yw m8 184 (m8 185 0) (o k)) 185 0 (m8 185 0 + 1)) = some (.inl (if k + 1 < N then o (k + 1) else -1, yw (yw m8 184 (m8 185 0) (o k)) 185 0 (m8 185 0 + 1))) := by
              have hT9 : JT n8 (yw (yw m8 184 (m8 185 0) (o k)) 185 0 (m8 185 0 + 1)) N o e p := hT8'.fb hB8 (FB.refl (fun _ => False) n8) (fun x hx => hx.elim) (fun f a b => by rw [yw_nF (by omega), yw_nF (by omega)])
              have := y_after (t := 0) (k := k) hT9.1.1 (Int.le_refl _) hk.1 (by rw [hN.2.2.2.1]; exact hlt) (by omega)
              rw [hN.2.2.1, hN.2.2.2.1] at this
              unfold nk_Y_select_116; rw [this]; rfl
            refine go _ _ cb0 (yb0.trans nx2) (fun K x y => by rw [nw_nK x, nw_nK y]; exact q1 K x y) (fun s x => by rw [nw_ns x, nw_nK (by decide)]; exact q2 s x) (fun f hf => ?_) ⟨by rw [nw_eq, yw_eq], by rw [yw_eq]; omega, by rw [yw_eq]; omega⟩ (fun j x y => ?_)
            · simp only [List.mem_cons, List.not_mem_nil, or_false, not_or] at hf
              rw [yw_nF hf.2, yw_nF hf.1]; exact q3 f (by simp only [List.mem_cons, List.not_mem_nil, or_false, not_or]; exact hf)
            · rw [yw_eq] at y
              rw [nw_nK (by decide), yw_nF (by decide)]
              by_cases ej : j = m8 185 0
              · rw [ej, nw_eq, yw_eq]
              · rw [nw_ns ej, yw_ni ej]; exact q5 j x (by omega)
      · exact (by
          have e : k = N := by omega
          refine ⟨n8, m8, ?_, ?_, q1, q2, q3, ⟨q4.1, q4.2.1, by omega, q5⟩⟩
          · unfold NL_H_listMatches_14
            refine it_inr ?_
            show nb_H_listMatches_14 k n8 = _
            unfold nb_H_listMatches_14
            rw [q1 10 (by decide) (by decide), a3.1, if_neg hlt]
          · rw [if_neg hlt]
            unfold NL_Y_select_70
            refine it_inr ?_
            show nb_Y_select_70 (-1) m8 = _
            unfold nb_Y_select_70
            rw [if_pos rfl])
  have c9 : n7 11 0 9 = 0 := by rw [a4.1 11 (by decide) (by decide) (by decide), nw_eq]
  obtain ⟨n9, m9, r1, r2, r3, r4, r5, r6⟩ := key N.toNat 0 n7 (yw m 185 0 0) (by omega) (by omega) (fun _ _ _ => rfl) (fun _ _ => rfl) (fun f hf => yw_nF (fun y => hf (by rw [y]; decide))) ⟨by rw [c9, yw_eq], by rw [yw_eq]; omega, by rw [yw_eq]; omega⟩ (fun j x y => by rw [yw_eq] at y; omega)
  rw [if_pos (by omega), hN.2.2.1] at r2
  have hB9 : BI A B n9 := a5.cg (r3 4 (by decide) (by decide)) (by rw [r3 5 (by decide) (by decide)]; exact ⟨rfl, rfl⟩) (r3 90 (by decide) (by decide)) (r3 91 (by decide) (by decide)) (r3 92 (by decide) (by decide)) (r3 93 (by decide) (by decide))
  have hT9 : JT n9 m N o e p := a2.ks (fun K hK => r3 K (by omega) (by omega))
  obtain ⟨f1, f2, f3⟩ := a4
  refine ⟨n9 11 0 9, n9, m9, ?_, ?_, r6, r5, hB9, hT9.fb hB9 (FB.refl (fun _ => False) n9) (fun x hx => hx.elim) (fun f a b => r5 f (by simp only [List.mem_cons, List.not_mem_nil, or_false, not_or]; omega)), nw n7 11 0 9 (n 11 0 9), ⟨fun K x y z => ?_, fun v s x y => ?_, fun s x y => ?_⟩, fun K x y => by rw [nw_nK x]; exact r3 K x y, fun s x => by rw [nw_ns x]; exact r4 s x⟩
  · unfold N_H_listMatches st
    dsimp only
    rw [a1]
    simp only [Option.bind_some]
    rw [r1]; rfl
  · rw [r2, r6.1]; rfl
  · by_cases z11 : K = 11
    · rw [z11]
      funext i s
      rw [nw_app]
      by_cases y2 : i = 0 ∧ s = 9
      · rw [if_pos ⟨rfl, y2⟩, y2.1, y2.2]
      · rw [if_neg (fun u => y2 u.2), f1 11 (by decide) (by decide) (by decide), nw_app, if_neg (fun u => y2 u.2)]
    · rw [nw_nK z11, f1 K x y z, nw_nK z11]
  · rw [nw_nK (by decide), f2 v s x y, nw_nK (by decide)]
  · rw [nw_nK (by decide), f3 s x y, nw_nK (by decide)]
end S8
