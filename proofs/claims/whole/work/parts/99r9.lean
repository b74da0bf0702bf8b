/-! THE CALL server: from its text on, and all of it -/
section R9
variable {n n' n0 : NS} {m m' m0 m5 : YS} {A B A0 B0 d L i v w k r G : Int} {g : Int → Int} {As Bs : Int → Prop} {κ : Int → Int}
theorem y_nk70 : nk_Y_server_70 m = some (-1000, m) := by
  unfold nk_Y_server_70 N_Y_wrong ck
  rw [if_pos (by decide)]; rfl
theorem srv_both (h : JNt κ As Bs A B n m) (hB : BI A0 B0 n) (hA : A = A0 + 112 ∧ A ≤ 8000000) (hBB : B = B0 + 2100) (hY : N_Y_take m0 = some (-1, m)) (ht : tx n d (m 2) L) (hd : d < n 90 0 0 ∧ n 93 0 d ≤ 10000) (hL : 0 ≤ L ∧ L ≤ 1280 ∧ m 3 0 = L) (htx : ∀ j, 0 ≤ j → j < L → isTx (m 2 j)) : SRV As Bs A B n m (N_Net_takeServer d L n) (N_Y_server m0) := by
  have hcell := hB.cells
  have h1953 := hB.2.2.1.1
  obtain ⟨n8, a1, a2, a3, a4, a5, a6, a7⟩ := c_newAns (n := n) ⟨h1953, by omega⟩
  have t8 : tx n8 d (m 2) L := a2.txx ht hd.1
  have ka := scx_ge (p := fun j => ¬ isBl (m 2 j)) 0 L
  have kb := scx_le (p := fun j => ¬ isBl (m 2 j)) (i := 0) (to := L) hL.1
  have ka : 0 ≤ tkE (m 2) 0 L := ka
  have kb : tkE (m 2) 0 L ≤ L := kb
  have eT := cs_fieldEnd (i := 0) t8 ⟨by omega, by omega⟩ (by omega)
  have eY := ys_tokenEnd (m := m) (i := 0) ⟨by omega, by omega⟩ (by omega)
  rw [hL.2.2] at eY
  have htk : ∀ j, 0 ≤ j → j < tkE (m 2) 0 L → isTx (m 2 j) := fun j x y => htx j x (by omega)
  generalize tkE (m 2) 0 L = at' at *
  have s5 := cs_stands (i := 0) (to := at') t8 okS5 kb (by omega) ⟨by omega, by omega⟩ (by omega) (by decide)
  have hC0 : N_Net_takeServer d L n = (N_Bytes_stands 1000005 d 0 at' n8).bind fun z17 => if z17 = 0 then some (-1000, n8) else ty n8 (n 90 0 0) 102 <| nn (n8 99 (n 90 0 0) 0) <| ty n8 (n8 99 (n 90 0 0) 0) 101 <| (N_Address_read (n8 99 (n 90 0 0) 0) d 0 at' 1582 n8).bind <| u2 fun z29 n32 => if z29 = 0 then some (-1000, n32) else ty n32 (n 90 0 0) 102 <| nn (n32 99 (n 90 0 0) 0) <| ty n32 (n32 99 (n 90 0 0) 0) 101 <| (N_Address_hasMark (n32 99 (n 90 0 0) 0) n32).bind fun z43 => if z43 = 0 then (NL_Net_takeServer_63 d L (n 90 0 0) at' 0 n32).bind <| us (u2 fun z47 n48 => ck (-1000 - z47) <| some (-1000 - z47, n48)) (u2 fun z55 n56 => nk_Net_takeServer_124 d L (n 90 0 0) z55 n56) else some (-1000, n32) := by
    unfold N_Net_takeServer al1 st
    dsimp only
    rw [if_pos ⟨h1953, by omega⟩, a1]
    simp only [Option.bind_some]
    rw [eT]
    simp only [Option.bind_some]
  have F8 : MDf n n8 m m := ⟨a2, by omega, by omega, ⟨FY.refl _ _, fun r _ _ _ => RwE.refl m r⟩⟩
  by_cases hs : mtR [47, 47] (m 2) 0 at'
  · have q0 : m 2 0 = 47 := hs.2.1
    have q1 : m 2 1 = 47 := hs.2.2.2.1
    have q2 : 1 < at' := hs.2.2.1
    have hYY : N_Y_server m0 = ((N_Y_refer 2 0 at' 1 m).bind <| u2 fun z24 m27 => if z24 = 0 then nk_Y_server_70 m27 else ix 0 66 <| if 0 < (m27 8 0) then nk_Y_server_70 m27 else (N_Y_copyRow 3 0 m27).bind fun m36 => st (yw m36 38 0 (-1)) fun m40 => st (yw m40 39 0 0) fun m44 => st (yw m44 41 0 0) fun m48 => st (yw m48 42 0 0) fun m52 => (NL_Y_server_101 at' m52).bind <| us (u2 fun z55 m56 => ck (z55 + 1) <| (N_Y_wrong (z55 + 1) m56).bind fun z63 => some (z63, m56)) (u2 fun z67 m68 => nk_Y_server_151 z67 m68)) := by
      unfold N_Y_server
      rw [hY]
      simp only [Option.bind_some, u2]
      rw [if_pos (by decide), eY]
      simp only [Option.bind_some]
      rw [if_neg (by omega)]
      unfold ix
      rw [if_pos (show (0 : Int) ≤ 0 ∧ (0 : Int) < 2000 by decide), if_pos q0, if_pos (show (0 : Int) ≤ 1 ∧ (1 : Int) < 2000 by decide), if_pos q1, refer_any ⟨by omega, q0, q1⟩]
    obtain ⟨bnm, bss, bq, bmk, bW, bC, bR⟩ := h.2.2
    have hA1 := h.1.2.1.1
    have h82 := h.1.2.1.2.2.1.2.1
    have hac := (hA1 1582 h82).1
    have hlt82 := hac.1.2
    have hltT := hac.2.2.1.2
    have x82 : n8 99 1582 = n 99 1582 := a2.2.2.2.2.1 1582 hlt82 (fun _ y => y.elim)
    have xT : n8 99 (n 99 1582 0) = n 99 (n 99 1582 0) := a2.2.2.2.2.1 _ hltT (fun _ y => y.elim)
    have hBS : BS n8 (n 90 0 0 + 1) (n 90 0 0 + 2) 1582 (n 99 1582 0) (n 99 1582) (n 99 (n 99 1582 0)) bnm bss bq bmk := by
      refine ⟨?_, ⟨by omega, by omega, by omega, by omega⟩, x82, xT, rfl, bC, bW⟩
      unfold AC at *
      rw [(a2.2.2.2.1 _ hlt82).1, (a2.2.2.2.1 _ hltT).1, (a2.2.2.2.1 _ hltT).2]
      exact ⟨⟨hac.1.1, by omega⟩, hac.2.1, ⟨hac.2.2.1.1, by omega⟩, hac.2.2.2⟩
    obtain ⟨⟨zc, nc⟩, ec, s', t', r1, r2, r3⟩ := c_read (i := 0) (to := at') a6 a7 t8 (by omega) (by omega) hBS ⟨by omega, ka, kb, by omega⟩
    obtain ⟨⟨zy, my⟩, ey, y1, y2⟩ := y_refer (f := 2) (i := 0) (to := at') (r := 1) (m := m) (g := m 2) (by decide) rfl ⟨by omega, ka, by show _ ≤ (2000 : Int); omega, by omega, by omega⟩ htk (by omega) bR bW
    simp only at r1 r3 y1 y2
    rw [hC0, bz_t s5 hs, hYY, ey]
    simp only [Option.bind_some, u2]
    rw [if_neg (by decide)]
    have nK : ∀ K, K ≠ 99 → nc K = n8 K := fun K hK => by rw [r1]; exact aw_K hK
    have nq : ∀ q, q ≠ n 90 0 0 + 1 → q ≠ n 90 0 0 + 2 → nc 99 q = n8 99 q := fun q u v => by rw [r1]; exact aw_q u v
    have Fy : FYs m my := ⟨y1.1.mono (fun f hf => by simp only [List.mem_cons, List.not_mem_nil, or_false] at hf ⊢; omega), fun r r0 _ _ => ⟨(y1.2.2 r (by omega)).1, (y1.2.2 r (by omega)).2, fun j a b => y1.2.1 j (by omega)⟩⟩
    have Fc : FNw n nc := by rw [r1]; exact a2.aw (by omega) (by omega)
    have Fcy : MDf n nc m my := ⟨Fc, by rw [nK 90 (by decide)]; omega, by rw [nK 91 (by decide), nK 90 (by decide)]; omega, Fy⟩
    have w1 : nc 92 0 (n 90 0 0) = 102 := by rw [nK 92 (by decide)]; exact a5.1
    have wq : nc 99 (n 90 0 0) = n8 99 (n 90 0 0) := nq _ (by omega) (by omega)
    have ac' : AC nc (n 90 0 0 + 1) (n 90 0 0 + 2) := by unfold AC at *; rw [nK 92 (by decide), nK 93 (by decide), nK 90 (by decide)]; exact a6
    have rs : nc 99 (n 90 0 0 + 1) = s' := by rw [r1]; exact aw_a (by omega)
    have rt : nc 99 (n 90 0 0 + 2) = t' := by rw [r1]; exact aw_T
    have hfirst : (ty n8 (n 90 0 0) 102 <| nn (n8 99 (n 90 0 0) 0) <| ty n8 (n8 99 (n 90 0 0) 0) 101 <| (N_Address_read (n8 99 (n 90 0 0) 0) d 0 at' 1582 n8).bind <| u2 fun z29 n32 => if z29 = 0 then some (-1000, n32) else ty n32 (n 90 0 0) 102 <| nn (n32 99 (n 90 0 0) 0) <| ty n32 (n32 99 (n 90 0 0) 0) 101 <| (N_Address_hasMark (n32 99 (n 90 0 0) 0) n32).bind fun z43 => if z43 = 0 then (NL_Net_takeServer_63 d L (n 90 0 0) at' 0 n32).bind <| us (u2 fun z47 n48 => ck (-1000 - z47) <| some (-1000 - z47, n48)) (u2 fun z55 n56 => nk_Net_takeServer_124 d L (n 90 0 0) z55 n56) else some (-1000, n32)) = if zc = 0 then some (-1000, nc) else (N_Address_hasMark (n 90 0 0 + 1) nc).bind fun z43 => if z43 = 0 then (NL_Net_takeServer_63 d L (n 90 0 0) at' 0 nc).bind <| us (u2 fun z47 n48 => ck (-1000 - z47) <| some (-1000 - z47, n48)) (u2 fun z55 n56 => nk_Net_takeServer_124 d L (n 90 0 0) z55 n56) else some (-1000, nc) := by
      unfold ty nn
      rw [if_pos a5.1, a5.2.1, if_pos (by omega), if_pos a6.2.1, ec]
      simp only [Option.bind_some, u2]
      by_cases z : zc = 0
      · rw [if_pos z, if_pos z]
      · rw [if_neg z, if_neg z, if_pos w1, wq, a5.2.1, if_pos (by omega), if_pos ac'.2.1]
    rw [hfirst]
    rcases r3 with ⟨u1, u2'⟩ | ⟨u1, nm, ss, q, mk, u2', u3, u4, u5, u6⟩
    · rcases y2 with ⟨v1, _⟩ | ⟨_, _, _, _, _, v2, _⟩
      · rw [if_pos u1, if_pos v1, y_nk70]
        exact srv_no Fcy hB hA hBB
      · rw [u2'] at v2; cases v2
    · rcases y2 with ⟨_, v2⟩ | ⟨v1, nm2, ss2, q2', mk2, v2, v3⟩
      · rw [u2'] at v2; cases v2
      · have v4 := v2
        rw [u2'] at v2
        cases v2
        have hW : WFA nm ss q mk := RF_wf u2' (by omega) bW htk
        have hC : CA nc (n 90 0 0 + 1) nm ss q mk := by unfold CA; rw [rs, r2, rt]; exact u3
        have hm : ev (N_Address_hasMark (n 90 0 0 + 1) nc) (bz (mk ≠ [])) := by
          refine c_hasMark (As := fun x => x = n 90 0 0 + 1) (fun x hx => ?_) rfl hC
          rw [hx, rs, r2]
          exact ⟨ac', fun b x y => by rw [Fc.2.1 b (fun z => z)]; have := (hB.1 b x y).2.1.2; omega, fun a' ha' _ => ha'.symm⟩
        rw [if_neg (by omega), if_neg (by omega)]
        unfold ix
        rw [if_pos (by decide), v3.2.2.1]
        by_cases hmk : mk = []
        · rw [bz_f hm (fun y => y hmk)]
          simp only [Option.bind_some]
          rw [if_pos trivial, if_neg (by rw [hmk]; decide)]
          obtain ⟨m36, e36, c36⟩ := y_copyRow (to := 3) (fr := 0) (m := my) (by omega) (by omega) (by omega)
          rw [e36]
          simp only [Option.bind_some]
          unfold st
          dsimp only
          generalize hm52 : yw (yw (yw (yw m36 38 0 (-1)) 39 0 0) 41 0 0) 42 0 0 = m52
          have F52 : FY [38, 39, 40, 41, 42, 43] m36 m52 := fun f hf => by
            simp only [List.mem_cons, List.not_mem_nil, or_false, not_or] at hf
            rw [← hm52, yw_nF (by omega), yw_nF (by omega), yw_nF (by omega), yw_nF (by omega)]
          have R52 : ∀ r, RwE m36 m52 r := fun r => RwE.of (F52 6 (by decide)) (F52 7 (by decide)) (F52 8 (by decide))
          have z38 : m52 38 0 = -1 := by rw [← hm52, yw_nF (by decide), yw_nF (by decide), yw_nF (by decide), yw_eq]
          have z39 : m52 39 0 = 0 := by rw [← hm52, yw_nF (by decide), yw_nF (by decide), yw_eq]
          have z41 : m52 41 0 = 0 := by rw [← hm52, yw_nF (by decide), yw_eq]
          have z42 : m52 42 0 = 0 := by rw [← hm52, yw_eq]
          have Fy52 : FYs m m52 := Fy.trans (FYs.trans (m' := m36) ⟨c36.1.mono (fun f hf => by simp only [List.mem_cons, List.not_mem_nil, or_false] at hf ⊢; omega), fun r _ r3 _ => RwE.cp c36 r3⟩ (FYs.of F52))
          have FNw' : MDf n nc m m52 := ⟨Fcy.1, Fcy.2.1, Fcy.2.2.1, Fy52⟩
          rw [hmk] at hW hC v3
          have M0 : MDm nc m52 (n 90 0 0) := by
            refine ⟨⟨w1, by rw [wq]; exact a5.2.1, ac', by rw [rs]; exact r2, ⟨nm, ss, q, hW, hC, (c36.made v3 hW).rw hW (R52 3)⟩⟩, ?_, .inl ⟨z39, by rw [wq]; exact a5.2.2.2.1⟩, .inl ⟨z41, by rw [wq, a5.2.2.2.2.1]; decide, by rw [nK 90 (by decide)]; exact a3⟩, ⟨by rw [wq, a5.2.2.2.2.2, z42], .inl z42⟩⟩
            unfold MD2
            rw [wq, a5.2.2.1, z38]; decide
          have hl := srv_loop (n0 := n) (m0 := m) ⟨h1953, by omega⟩ ht hd.1 ⟨by omega, hL.2.2⟩ htx (L - at').toNat at' 0 nc m52 (Nat.le_refl _) ⟨ka, kb⟩ ⟨by omega, ka⟩ FNw' M0
          rcases hl with ⟨b, n2, m2, l1, l2, l3, l4⟩ | ⟨b, n2, m2, l1, l2, l3, l4, l5⟩
          · rw [l1, l2]
            simp only [Option.bind_some, us, u2]
            unfold N_Y_wrong ck
            rw [if_pos (show inR (-1000 - (b + 1)) by omega), if_pos (show inR (b + 1) by omega)]
            rw [if_pos (show inR (-1000 - (b + 1)) by omega)]
            exact srv_no l4 hB hA hBB
          · rw [l1, l2]
            simp only [Option.bind_some, us, u2]
            exact srv_end h hB hA hBB l4 l5 ht hd ⟨hL.2.1, hL.2.2⟩ htx l3
        · rw [bz_t hm hmk]
          simp only [Option.bind_some]
          rw [if_neg (by decide), if_pos (by have := List.length_pos_iff.mpr hmk; omega), y_nk70]
          exact srv_no Fcy hB hA hBB
  · have hYY : N_Y_server m0 = some (-1000, m) := by
      unfold N_Y_server
      rw [hY]
      simp only [Option.bind_some, u2]
      rw [if_pos (by decide), eY]
      simp only [Option.bind_some]
      rw [y_nk70]
      by_cases z0 : at' < 2
      · rw [if_pos z0]
      · rw [if_neg z0]
        unfold ix
        rw [if_pos (show (0 : Int) ≤ 0 ∧ (0 : Int) < 2000 by decide)]
        by_cases z1 : m 2 0 = 47
        · rw [if_pos z1, if_pos (show (0 : Int) ≤ 1 ∧ (1 : Int) < 2000 by decide), if_neg (fun z2 : m 2 1 = 47 => hs ⟨by omega, z1, by show (0 : Int) + 1 < at'; omega, z2, trivial⟩)]
        · rw [if_neg z1]
    rw [hC0, bz_f s5 hs, hYY]
    simp only [Option.bind_some]
    rw [if_pos trivial]
    exact srv_no F8 hB hA hBB
/-- what server leaves as it was -/
def FZs (n n' : NS) (m m' : YS) : Prop := (∀ K, K ∉ [4, 6, 23, 90, 91, 92, 93, 99] → n' K = n K) ∧ FS (fun x => x = 605) n n' ∧ (∀ f, 44 ≤ f → m' f = m f)
theorem call_server (hC : CI As Bs A B G n m) (hJ : JTape n m) (hO : JOut n m) (hA : A + 112 ≤ 8000000) (h80 : m 1 0 ≤ 1280) :
    ∃ r n' m' As' Bs', N_H_server n = some (r, n') ∧ N_Y_server m = some (r, m') ∧ CI As' Bs' (A + 112) (B + 2100) (G + 6) n' m' ∧ JTape n' m' ∧ JOut n' m' ∧ FZs n n' m m' := by
  have hB := hC.1.bi
  obtain ⟨m5, f5, m1, ht, hs, hsz, hc⟩ := take_both hB hJ
  have f5' : ∀ f, f ∉ [1, 2, 3] → m5 f = m f := f5
  have O5 : JOut n m5 := by unfold JOut ys at *; rw [f5' 4 (by decide), f5' 5 (by decide)]; exact hO
  have C5 : CI As Bs A B G n m5 := hC.rows hB (FB.refl (fun x => x = 605) n) (fun x hx => .inl hx) (fun f hf => f5' f (by simp only [List.mem_cons, List.not_mem_nil, or_false, not_or]; omega))
  have hb605 := hB.1 605 (by omega) (by omega)
  have hAB : A ≤ A + 112 ∧ A + 112 ≤ 8000000 := ⟨by omega, hA⟩
  -- the end: the tape is cleared
  have fin : ∀ (r : Int) (n1 : NS) (m6 : YS) (As' Bs' : Int → Prop), JA As' Bs' (A + 112) (B + 2100) 0 (G + 6) n1 m6 → (∀ K, K ∉ [6, 23, 90, 91, 92, 93, 99] → n1 K = n K) → (∀ s, s ≠ 2 → n1 6 0 s = n 6 0 s) → FS (fun _ => False) n n1 → (∀ f, f ≤ 5 ∨ 25 ≤ f → ¬ (38 ≤ f ∧ f ≤ 43) → m6 f = m5 f) → ∃ n3, nk_H_server_31 r n1 = some (r, n3) ∧ CI As' Bs' (A + 112) (B + 2100) (G + 6) n3 m6 ∧ JTape n3 m6 ∧ JOut n3 m6 ∧ FZs n n3 m m6 := fun r n1 m6 As' Bs' q1 q2 q3 q4 q5 => by
    have e4 : n1 4 = n 4 := q2 4 (by decide)
    have hC1 : CI As' Bs' (A + 112) (B + 2100) (G + 6) n1 m6 := ⟨q1, by rw [q2 0 (by decide), q3 16 (by decide)]; exact C5.2.1, C5.2.2.fp C5.1.born (FP.of (fun f a b => q5 f (by omega) (by omega)))⟩
    obtain ⟨n3, k1, k2, k3, k4⟩ := cs_clear (b := 605) (by omega) q1.bi
    have O1 : JOut n1 m6 := by
      unfold JOut ys at *
      rw [q4.bt (b := 606) (by omega) (fun z => z), e4, q5 4 (by omega) (by omega), q5 5 (by omega) (by omega)]; exact O5
    refine ⟨n3, by unfold nk_H_server_31; rw [k1]; rfl, hC1.rows k2 k3 (fun x hx => .inl hx) (fun _ _ => rfl), JTape_clear k2 k4 (by rw [q5 1 (by omega) (by omega)]; exact m1), O1.fb q1.bi k3 (fun x hx => by have hx : x = 605 := hx; omega) (by omega) rfl rfl, fun K hK => ?_, fun b x y z => ?_, fun f hf => by rw [q5 f (by omega) (by omega), f5' f (by simp only [List.mem_cons, List.not_mem_nil, or_false, not_or]; omega)]⟩
    · simp only [List.mem_cons, List.not_mem_nil, or_false, not_or] at hK
      rw [k3.1 K (by omega) (by omega) (by omega) (by omega) (by omega) (by omega), q2 K (by simp only [List.mem_cons, List.not_mem_nil, or_false, not_or]; omega)]
    · have c1 := q4 b x y (fun u => u)
      have c2 := k3.bts q1.bi ⟨x, y⟩ z (fun u hu => by have hu : u = 605 := hu; omega)
      rw [e4] at c2
      exact ⟨by rw [c2.1], by rw [c2.2.1]; exact c1.2⟩
  rcases hc with ⟨i, i0, i1, c1, c2⟩ | ⟨c1, c2, c3⟩
  · obtain ⟨n3, k⟩ := fin (-1000 - i) n m5 As Bs ((C5.1.mo hAB (by omega)).mono (by omega)) (fun _ _ => rfl) (fun _ _ => rfl) (FS.refl _ n) (fun _ _ _ => rfl)
    refine ⟨-1000 - i, n3, m5, As, Bs, ?_, ?_, k.2⟩
    · unfold N_H_server; rw [c1]
      simp only [Option.bind_some]
      rw [if_neg (by omega)]; exact k.1
    · unfold N_Y_server N_Y_wrong ck; rw [c2]
      show (if i < 0 then _ else _) = _
      rw [if_neg (by omega), if_pos (by omega)]; rfl
  · have hL : m5 3 0 ≤ 1280 := by have := hJ.2.1; omega
    have C6 := C5.1.mo hAB (show B ≤ B + 2100 by omega)
    obtain ⟨κ, N, o, e, p, hN, _⟩ := C6
    have hS := srv_both (d := n 4 605 1) (L := m5 3 0) (m0 := m) hN hB ⟨rfl, hA⟩ rfl c2 ht ⟨hb605.2.1.2, by have := hb605.2.2.2.2.2; rw [lim_605] at this; omega⟩ ⟨hs.1, hL, rfl⟩ c3
    obtain ⟨r, n1, m6, As', Bs', w1, w2, w3, w4, w5, w6, w7⟩ := hS
    have J6 : JA As' Bs' (A + 112) (B + 2100) 0 (G + 6) n1 m6 := (C5.1.mo hAB (show B ≤ B + 2100 by omega)).srv (fun κ hk => ⟨κ, w3 κ hk⟩) (fun K hK => w4 K (fun z => hK (by simp only [List.mem_cons, List.not_mem_nil, or_false] at z ⊢; omega))) (w5 8 (by decide)) (w6.wid (fun _ z => z.elim)) (fun f hf => w7 f (by omega) (by omega)) (by rw [w7 35 (by omega) (by omega)]; omega)
    obtain ⟨n3, k⟩ := fin r n1 m6 As' Bs' J6 w4 w5 w6 w7
    refine ⟨r, n3, m6, As', Bs', ?_, w2, k.2⟩
    unfold N_H_server nn; rw [c1]
    simp only [Option.bind_some]
    rw [if_pos trivial, if_pos hb605.2.1.1, hsz, w1]
    simp only [Option.bind_some, u2]
    exact k.1
end R9
