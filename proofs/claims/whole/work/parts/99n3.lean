/-! STEPS: get -/
/-- the rest of the reference's get, behind its REFERENCE -/
noncomputable def getR (m6 : YS) : Option YS :=
  (N_Y_fetch m6).bind fun m12 =>
    (N_Y_sameSite 4 1 m12).bind fun z16 =>
    if z16 = 0 then
      if (m12 44 0) < 0 then
        nk_Y_getStep_47 m12
      else
        ix (m12 44 0) 20 <|
        if (m12 24 (m12 44 0)) = 0 then
          nk_Y_getStep_47 m12
        else
          nk_Y_getStep_58 m12
    else
      nk_Y_getStep_58 m12
section N3
variable {n n' n'' : NS} {m m' m'' : YS} {A B N N' k v b a δ δ' G G' fr to d L r r' : Int} {o e p o' e' p' : Int → Int} {As Bs W S : Int → Prop} {κ κ' : Int → Int} {nm q mk nm' q' mk' : List Int} {ss ss' : List (List Int)}
theorem nw_id {K : Nat} {i s v : Int} (h : n K i s = v) : nw n K i s v = n := by
  funext a b c
  rw [nw_app]
  split
  · rename_i w; rw [w.1, w.2.1, w.2.2, h]
  · rfl
theorem nw_nw {K : Nat} {i s u v : Int} : nw (nw n K i s u) K i s v = nw n K i s v := by
  funext a b c
  rw [nw_app, nw_app, nw_app]
  split <;> rfl
theorem opGet (h : JA As Bs A B δ G n m) (hR : JRn n m) (hf : 0 ≤ fr ∧ fr ≤ to ∧ to ≤ m 160 0) (h17 : n 0 0 17 = -1) :
    DON As Bs A B δ (G + 6) n m ((N_Address_read 1584 (n 4 609 1) fr to 1582 n).bind (u2 fun z72 n75 => if z72 = 0 then nk_Acts_runOnNode_222 (-1) n75 else nk_Acts_runOnNode_222 v n75)) ((N_Y_getStep fr to m).bind fun m53 => some (1, m53))
    ∨ ∃ n1 m1, (N_Address_read 1584 (n 4 609 1) fr to 1582 n).bind (u2 fun z72 n75 => if z72 = 0 then nk_Acts_runOnNode_222 (-1) n75 else nk_Acts_runOnNode_222 v n75) = some (1, nw n1 0 0 17 v) ∧ ((N_Y_getStep fr to m).bind fun m53 => some ((1 : Int), m53)) = (getR m1).bind (fun m53 => some (1, m53)) ∧ JA As Bs A B δ (G + 6) n1 m1 ∧ FA n n1 m m1 ∧ AR n1 m1 1584 0 ∧ (∀ f, ¬ (6 ≤ f ∧ f ≤ 15) → m1 f = m f) := by
  obtain ⟨z, n', m', x1, x2, x3, x4, x5, x6⟩ := readRef h hR hf
  have e17 : n' 0 0 17 = -1 := by rw [x5.1.2.2.1 17 (by decide)]; exact h17
  unfold N_Y_getStep
  rw [x1, x2]
  rcases x3 with hz | ⟨hz, hAR⟩
  · subst hz
    refine .inl ⟨1, n', m', ?_, rfl, .inr rfl, x4.mono (by omega), x5⟩
    show some (1, nw n' 0 0 17 (-1)) = _
    rw [nw_id e17]
  · subst hz
    exact .inr ⟨n', m', rfl, rfl, x4, x5, hAR, x6⟩
/-- what is fetched by a step, in both -/
theorem get_both (h : JA As Bs A B δ G n m) (hG : G < 500000000) (hAR : AR n m 1584 0) (hT : JTr n m N o e p) (k0 : 0 ≤ k) (k1 : k < N) (hk : o k = v) (h17 : m 46 v ≠ 17) (h164 : m 164 0 = v) (h126 : m 126 0 = 0) (hn17 : n 0 0 17 = -1) :
    ∃ n' m', N_Acts_finishGet (nw n 0 0 17 v) = some n' ∧ getR m = some m' ∧ JA As Bs A B δ (G + 10) n' m' ∧ FA n n' m m' := by
  have hg := h
  obtain ⟨κ, N0, o0, e0, p0, h1, h2, _, _, _, _, _, g⟩ := hg
  obtain ⟨hJ, hH, hP⟩ := h1
  obtain ⟨nm, ss, q, mk, hW, hC, hR⟩ := hAR
  have hv := hJ.2.1.2.2.1.2.2.1
  obtain ⟨a, n1, m1, κ1, b1, b2, b3, b4, b5, b6, b7⟩ := fetch_both hJ hv (by decide) hW hC hR (by have := g.2.2.1; omega)
  have hfq := b6.1
  have hA1 := b3.2.1.1
  have hb1 := b3.2.1.2.1
  have h82 := hJ.2.1.2.2.1.2.1
  have hP1 : AR n1 m1 1582 1 := hP.fq hfq h82 (by decide) (b7.2.1 1 (by decide) (by decide) (by decide) (by decide))
  have hH1 : JHs As n1 m1 := hH.cg hfq (fun x hx => by unfold hiA; omega) ⟨b6.2.2.1 18 (by decide) (by decide) (by decide), b6.2.2.1 19 (by decide) (by decide) (by decide)⟩ (b6.2.1 27 (by decide)) ⟨b7.1 148 (by decide), b7.1 149 (by decide)⟩ (fun r a b => b7.2.1 r (by omega) (by omega) (by omega) (by omega))
  have yf : ∀ f, ¬ (6 ≤ f ∧ f ≤ 15) → ¬ (17 ≤ f ∧ f ≤ 18) → ¬ (23 ≤ f ∧ f ≤ 24) → ¬ (26 ≤ f ∧ f ≤ 37) → f ≠ 44 → m1 f = m f := fun f c1 c2 c3 c4 c5 => b7.1 f (by simp only [List.mem_cons, List.not_mem_nil, or_false, not_or]; omega)
  have kK : ∀ K, K ∉ [4, 6, 24, 25, 27, 90, 91, 92, 93, 99] → n1 K = n K := fun K c => b6.2.1 K (by simp only [List.mem_cons, List.not_mem_nil, or_false, not_or] at c ⊢; omega)
  have hA : JA As Bs A B δ (G + 6) n1 m1 := h.net ⟨b3, hH1, hP1⟩ kK (b6.2.2.1 8 (by decide) (by decide) (by decide)) b6.2.2.2 (fun f hf => yf f (by omega) (by omega) (by omega) (by omega) (by omega)) b7.2.2.2
  have fA : FA n n1 m m1 := FA.net kK (b6.2.2.1 16 (by decide) (by decide) (by decide)) b6.2.2.2 (fun f c1 c2 c3 c4 c5 _ _ => yf f c1 c2 c3 c4 c5)
  have hT1 : JTr n1 m1 N o e p := hT.cg (fun K c => kK K (by simp only [List.mem_cons, List.not_mem_nil, or_false, not_or]; omega)) (fun b x y => b6.2.2.2.bt (by omega) (by omega)) (fun f a b => yf f (by omega) (by omega) (by omega) (by omega) (by omega))
  -- whose site is it
  obtain ⟨nm4, ss4, q4, hW4, hC4, hR4⟩ := b5
  obtain ⟨nm1, ss1, q1, mk1, hW1, hC1, hR1⟩ := hP1
  obtain ⟨z, ez, hz⟩ := y_sameSite hR4 hW4 hR1 hW1 (by decide) (by decide)
  have c86 := (hA1 1586 b3.2.1.2.2.1.2.2.2).1
  have c82 := (hA1 1582 b3.2.1.2.2.1.2.1).1
  have hsame : n1 99 1586 1 = n1 99 1582 1 ↔ nm4 = nm1 := by
    rw [hC4.1, hC1.1]
    exact ⟨fun w => pkq_inj hW4.nm.bt hW1.nm.bt w, fun w => by rw [w]⟩
  -- what was got
  have hgot : (n1 92 0 a = 102) ∧ (0 ≤ n1 99 a 6 ∧ n1 92 0 (n1 99 a 6) = 1) ∧ (∃ l, n1 93 0 (n1 99 a 6) = l ∧ 0 ≤ l ∧ l ≤ 1280 ∧ ((m1 44 0 < 0 ∧ n1 99 a 5 = 0 ∧ l = 0) ∨ (0 ≤ m1 44 0 ∧ m1 44 0 < 20 ∧ n1 99 a 5 = m1 24 (m1 44 0) ∧ l = m1 18 (m1 44 0) ∧ ∀ j, 0 ≤ j → j < l → n1 99 (n1 99 a 6) j = m1 17 (1500 * m1 44 0 + j) ∧ isTx (m1 17 (1500 * m1 44 0 + j))))) ∧ Bs (n1 99 a 6) := by
    rcases b4 with ⟨y1, y2⟩ | ⟨y1, y2, y3⟩
    · have hE := b3.2.1.2.2.2.2.2.1
      obtain ⟨t1, t2, t3, t4, t5, t6, t7⟩ := hE
      rw [y2]
      have := hb1 _ t6
      exact ⟨t1.2, ⟨this.1.1, this.2.1⟩, ⟨0, t7, by omega, by omega, .inl ⟨by omega, t5, rfl⟩⟩, t6⟩
    · obtain ⟨t1, t2, t3, t4, t5, t6, t7, t8⟩ := y3
      have := hb1 _ t5
      exact ⟨t1.2.2, ⟨this.1.1, this.2.1⟩, ⟨_, t7, t6.1, t6.2, .inr ⟨y1, y2, t4, rfl, t8⟩⟩, t5⟩
  obtain ⟨u1, ⟨u2', u3⟩, ⟨l, ul, l0, l1, hl⟩, uB⟩ := hgot
  have hbx := hb1 _ uB
  have e3 : nw (nw n 0 0 17 v) 0 0 17 (-1) = n := by
    rw [nw_nw, nw_id hn17]
  -- its body becomes the text
  have hset : ∃ n' m', nk_Acts_finishGet_56 v a n1 = some n' ∧ nk_Y_getStep_58 m1 = some m' ∧ JA As Bs A B δ (G + 10) n' m' ∧ FA n n' m m' := by
    have hmn : min l 200 = min 200 l := by omega
    obtain ⟨F, aa, hF, haa, hsz, hat⟩ : ∃ (F : Nat) (aa : Int), (F < 45 ∨ 88 < F) ∧ nk_Y_getStep_58 m1 = (N_Y_setText F aa (min l 200) m1).bind (fun m5 => some m5) ∧ (0 ≤ aa ∧ aa + min l 200 ≤ yLn F ∧ aa + min l 200 ≤ 100000) ∧ ∀ j, 0 ≤ j → j < min l 200 → m1 F (aa + j) = n1 99 (n1 99 a 6) j ∧ isTx (n1 99 (n1 99 a 6) j) := by
      rcases hl with ⟨w1, w2, w3⟩ | ⟨w1, w2, w3, w4, w5⟩
      · subst w3
        refine ⟨159, 0, .inr (by decide), ?_, ⟨by decide, by decide, by decide⟩, fun j j0 j1 => by omega⟩
        unfold nk_Y_getStep_58
        rw [if_pos w1]; rfl
      · refine ⟨17, m1 44 0 * 1500, .inl (by decide), ?_, ⟨by omega, by show _ ≤ (30000 : Int); omega, by omega⟩, fun j j0 j1 => ?_⟩
        · unfold nk_Y_getStep_58 ck ix
          rw [if_neg (by omega), if_pos (by omega), if_pos (by omega), ← w4, hmn]
        · have := w5 j j0 (by omega)
          rw [show m1 44 0 * 1500 = 1500 * m1 44 0 by omega, this.1]
          exact ⟨rfl, this.2⟩
    have hg1 := hA
    obtain ⟨_, _, _, _, _, _, _, _, _, _, _, _, g1⟩ := hg1
    obtain ⟨n', m', N', o', e', p', x1, x2, x3, x4, x5, x6, x7, x8, x9, x10, x11, x12, x13, x14⟩ := setText_both (n := n1) (m := m1) (F := F) (a := aa) (fr := 0) (to := min l 200) (L := l) (d := n1 99 a 6) (g := n1 99 (n1 99 a 6)) hT1.1 hT1.2.1 b3.1 k0 k1 hk (by rw [yf 46 (by decide) (by decide) (by decide) (by decide) (by decide)]; exact h17) (by rw [yf 164 (by decide) (by decide) (by decide) (by decide) (by decide)]; exact h164) ⟨hT1.2.2.2, by have := g1.1; omega, by have := g1.2.1; omega⟩ ⟨u3, by rw [ul]; exact Int.le_refl _, fun _ _ _ => rfl⟩ hbx.1 (fun b x y => hbx.2.2.1 b x (by omega)) (by omega) hF (by rw [show min l 200 - 0 = min l 200 by omega]; exact hsz) (fun j j0 j1 => by
      rw [show (0 : Int) + j = j by omega]
      exact hat j j0 (by omega))
    rw [show min l 200 - 0 = min l 200 by omega] at x2
    refine ⟨n', m', ?_, by rw [haa, x2]; rfl, (hA.tree x3 x4 x5 x6 x7 x8 ⟨x9, x10⟩ x11 x14).mono (by omega), fA.trans (FA.tree b3.1 x6 x7 x11 x12 x13 x9 (.inl (by rw [yf 126 (by decide) (by decide) (by decide) (by decide) (by decide)]; exact h126)))⟩
    unfold nk_Acts_finishGet_56 ty nn ck
    rw [if_pos u1, if_pos u2', if_pos u1, if_pos u2', if_pos u3, if_pos (by omega), ul, x1]; rfl
  -- it is refused
  have href : ∃ n' m', (ck ((n1 0 0 10) + 1) <| st (nw n1 0 0 10 ((n1 0 0 10) + 1)) fun n34 => some n34) = some n' ∧ nk_Y_getStep_47 m1 = some m' ∧ JA As Bs A B δ (G + 10) n' m' ∧ FA n n' m m' := by
    have hg1 := hA
    obtain ⟨_, _, _, _, _, _, _, _, _, _, hc, _, g1⟩ := hg1
    obtain ⟨g11, g12, g13, g14, g15, g16, g17⟩ := g1
    obtain ⟨c1, c2, c3⟩ := hc
    refine ⟨nw n1 0 0 10 (n1 0 0 10 + 1), yw m1 157 0 (m1 157 0 + 1), ?_, ?_, ?_, fA.trans ?_⟩
    · unfold ck st
      rw [if_pos (by omega)]
    · unfold nk_Y_getStep_47 ck st
      rw [if_pos (by omega)]
    · refine hA.ct (fun K hK => nw_nK hK) (fun s hs => nw_ns (by omega)) (fun f hf => yw_nF (fun w => hf (by rw [w]; decide))) ⟨?_, ?_, ?_⟩ ⟨?_, ?_, ?_⟩ (by omega)
      · rw [nw_ns (by decide), yw_nF (by decide)]; exact c1
      · rw [nw_ns (by decide), yw_nF (by decide)]; exact c2
      · rw [nw_eq, yw_eq, c3]
      · rw [yw_nF (by decide)]; omega
      · rw [yw_nF (by decide)]; omega
      · rw [yw_eq]; omega
    · refine ⟨⟨fun K c => nw_nK (fun w => c (by rw [w]; decide)), FS.ks (nw_nK (by decide)) (nw_nK (by decide)), fun s c => nw_ns (fun w => c (by rw [w]; decide)), by rw [nw_nK (by decide)]⟩, fun f hf => yw_nF (by omega), .inr ⟨by rw [nw_nK (by decide)], fun f a b => yw_nF (by omega)⟩, .inr ⟨by rw [yw_nF (by decide)], fun f a b => yw_nF (by omega)⟩, LIV.of (yw_nF (by decide)) (yw_nF (by decide)) (yw_nF (by decide)), OLV.of (fun f hf => yw_nF (by omega)), by rw [yw_nF (by decide)]; exact Int.le_refl _⟩
  have eC : N_Acts_finishGet (nw n 0 0 17 v) = if n1 99 a 5 = 0 then (if n1 99 1586 1 = n1 99 1582 1 then nk_Acts_finishGet_56 v a n1 else (ck ((n1 0 0 10) + 1) <| st (nw n1 0 0 10 ((n1 0 0 10) + 1)) fun n34 => some n34)) else nk_Acts_finishGet_56 v a n1 := by
    unfold N_Acts_finishGet
    rw [nw_eq]
    show (N_Net_fetch 1584 (nw (nw n 0 0 17 v) 0 0 17 (-1))).bind _ = _
    rw [e3, b1]
    show (ty n1 a 102 _) = _
    unfold ty
    rw [if_pos u1, if_pos c86.2.1, if_pos c82.2.1]
  have eY : getR m = if z = 0 then (if m1 44 0 < 0 then nk_Y_getStep_47 m1 else ix (m1 44 0) 20 (if m1 24 (m1 44 0) = 0 then nk_Y_getStep_47 m1 else nk_Y_getStep_58 m1)) else nk_Y_getStep_58 m1 := by
    unfold getR
    rw [b2]
    simp only [Option.bind_some]
    rw [ez]
    simp only [Option.bind_some]
  rw [eC, eY]
  by_cases hs : nm4 = nm1
  · rw [if_pos (hsame.mpr hs)]
    have hz1 : z ≠ 0 := by
      rcases hz with ⟨y, _⟩ | ⟨_, y⟩
      · omega
      · exact absurd hs y
    rw [if_neg hz1]
    have : (if n1 99 a 5 = 0 then nk_Acts_finishGet_56 v a n1 else nk_Acts_finishGet_56 v a n1) = nk_Acts_finishGet_56 v a n1 := by split <;> rfl
    rw [this]
    exact hset
  · rw [if_neg (fun w => hs (hsame.mp w))]
    have hz0 : z = 0 := by
      rcases hz with ⟨_, y⟩ | ⟨y, _⟩
      · exact absurd y hs
      · exact y
    rw [if_pos hz0]
    rcases hl with ⟨w1, w2, w3⟩ | ⟨w1, w2, w3, w4, w5⟩
    · rw [if_pos w2, if_pos w1]; exact href
    · rw [if_neg (show ¬ m1 44 0 < 0 by omega), ← w3]
      have hix : ∀ (x : Option YS), ix (m1 44 0) 20 x = x := fun x => by unfold ix; rw [if_pos ⟨w1, w2⟩]
      rw [hix]
      by_cases w : n1 99 a 5 = 0
      · rw [if_pos w, if_pos w]; exact href
      · rw [if_neg w, if_neg w]; exact hset
end N3
