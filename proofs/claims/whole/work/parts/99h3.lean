/-! AN ATTRIBUTE is read, in both: where its name and value are -/
/-- name up to q, value from b to t, behind it z -/
def ATR (g : Int → Int) (L i q b t z : Int) : Prop :=
  q = sc (anC g) (i + 1) L ∧ ((q < L ∧ g q = 61 ∧ q + 1 < L ∧ (g (q + 1) = 34 ∨ g (q + 1) = 39) ∧ b = q + 2 ∧ t = sc (fun j => g j ≠ g (q + 1)) (q + 2) L ∧ z = t + 1)
    ∨ (q < L ∧ g q = 61 ∧ ¬ (q + 1 < L ∧ (g (q + 1) = 34 ∨ g (q + 1) = 39)) ∧ b = q + 1 ∧ t = sc (pvC g) (q + 1) L ∧ z = t)
    ∨ (¬ (q < L ∧ g q = 61) ∧ b = q ∧ t = q ∧ z = q))
theorem ATR.b {g : Int → Int} {L i q b t z : Int} (h : ATR g L i q b t z) (hi : 0 ≤ i ∧ i < L) : i + 1 ≤ q ∧ q ≤ L ∧ q ≤ b ∧ b ≤ t ∧ t ≤ L ∧ t ≤ z ∧ z ≤ L + 1 ∧ i < z := by
  obtain ⟨h1, h2⟩ := h
  have a := scx_ge (p := anC g) (i + 1) L
  have b' := scx_le (p := anC g) (i := i + 1) (to := L) (by omega)
  rw [← h1] at a b'
  rcases h2 with ⟨c1, c2, c3, c4, c5, c6, c7⟩ | ⟨c1, c2, c3, c4, c5, c6⟩ | ⟨c1, c2, c3, c4⟩
  · have d1 := scx_ge (p := fun j => g j ≠ g (q + 1)) (q + 2) L
    have d2 := scx_le (p := fun j => g j ≠ g (q + 1)) (i := q + 2) (to := L) (by omega)
    omega
  · have d1 := scx_ge (p := pvC g) (q + 1) L
    have d2 := scx_le (p := pvC g) (i := q + 1) (to := L) (by omega)
    omega
  · omega
theorem ATR.ex {g : Int → Int} {L i : Int} : ∃ q b t z, ATR g L i q b t z := by
  generalize hq : sc (anC g) (i + 1) L = q
  by_cases h1 : q < L ∧ g q = 61
  · by_cases h2 : q + 1 < L ∧ (g (q + 1) = 34 ∨ g (q + 1) = 39)
    · exact ⟨q, _, _, _, hq.symm, .inl ⟨h1.1, h1.2, h2.1, h2.2, rfl, rfl, rfl⟩⟩
    · exact ⟨q, _, _, _, hq.symm, .inr (.inl ⟨h1.1, h1.2, h2, rfl, rfl, rfl⟩)⟩
  · exact ⟨q, _, _, _, hq.symm, .inr (.inr ⟨h1, rfl, rfl, rfl⟩)⟩
section H3
variable {n : NS} {m : YS} {g : Int → Int} {L i q b t z v1 v2 v5 : Int}
theorem c_readAttr (h : RDR n g L) (hg : ∀ j, 0 ≤ j → j < L → isTx (g j)) (hi : 0 ≤ i ∧ i < L) (hA : ATR g L i q b t z) : N_Reader_readAttribute i v2 n = nk_Reader_readAttribute_206 i v2 z (pk (smL g i q)) b t n := by
  have hb := hA.b hi
  have h' := h
  obtain ⟨h1, h2, h3, h4, h5⟩ := h'
  have hpk : N_Bytes_packSmall (n 8 0 8) i q n = some (pk (smL g i q)) := cs_packSmall h1 (by omega) hi.1 ⟨by omega, by omega⟩ (fun j a b _ => by have := hg j (by omega) (by omega); omega)
  have ed : ∀ (α : Type) (x : Option α) (j : Int), 0 ≤ j → j < L → dx n (n 8 0 8) 1 j x = x := fun α x j j0 j1 => by unfold dx; rw [if_pos ⟨h1.1, j0, by have := h1.2.1; omega⟩]
  have eg : ∀ j, 0 ≤ j → j < L → n 99 (n 8 0 8) j = g j := h1.2.2
  have en : ∀ (α : Type) (x : Option α), nn (n 8 0 8) x = x := fun α x => by unfold nn; rw [if_pos h3]
  have ec : ∀ (α : Type) (x : Option α) (j : Int), -10 ≤ j → j ≤ 5000 → ck j x = x := fun α x j j0 j1 => by unfold ck; rw [if_pos (by omega)]
  unfold N_Reader_readAttribute
  rw [ec _ _ _ (by omega) (by omega), c_attrScan h ⟨by omega, by omega⟩, ← hA.1]
  show nk_Reader_readAttribute_63 i v2 q n = _
  unfold nk_Reader_readAttribute_63
  rw [en, hpk]
  simp only [Option.bind_some]
  rw [h2]
  rcases hA.2 with ⟨c1, c2, c3, c4, c5, c6, c7⟩ | ⟨c1, c2, c3, c4, c5, c6⟩ | ⟨c1, c2, c3, c4⟩
  · rw [if_pos c1, en, ed _ _ _ (by omega) (by omega), eg q (by omega) (by omega), if_pos c2, ec _ _ _ (by omega) (by omega), if_pos c3, en, ed _ _ _ (by omega) (by omega), eg _ (by omega) (by omega)]
    have e1 : nk_Reader_readAttribute_137 i v2 (pk (smL g i q)) (q + 1) n = nk_Reader_readAttribute_206 i v2 z (pk (smL g i q)) b t n := by
      unfold nk_Reader_readAttribute_137 nk_Reader_readAttribute_142
      rw [if_neg (by decide), ec _ _ _ (by omega) (by omega)]
      unfold nk_Reader_readAttribute_158
      rw [if_neg (by decide), en, ec _ _ _ (by omega) (by omega), ed _ _ _ (by omega) (by omega), show q + 1 + 1 - 1 = q + 1 by omega, eg _ (by omega) (by omega), show q + 1 + 1 = q + 2 by omega, c_quoteEnd h ⟨by omega, by omega⟩, ← c6]
      show nk_Reader_readAttribute_189 i v2 (pk (smL g i q)) (q + 2) 1 t n = _
      unfold nk_Reader_readAttribute_189
      rw [if_neg (by decide), ec _ _ _ (by omega) (by omega)]
      unfold nk_Reader_readAttribute_205
      rw [c7, c5]
    rcases c4 with y | y
    · rw [if_pos y]; exact e1
    · rw [if_neg (by omega), en, ed _ _ _ (by omega) (by omega), if_pos y]; exact e1
  · have e1 : nk_Reader_readAttribute_141 i v2 (pk (smL g i q)) (q + 1) n = nk_Reader_readAttribute_206 i v2 z (pk (smL g i q)) b t n := by
      unfold nk_Reader_readAttribute_141 nk_Reader_readAttribute_142
      rw [if_pos rfl]
      unfold nk_Reader_readAttribute_158
      rw [if_pos rfl, c_plainEnd h ⟨by omega, by omega⟩, ← c5]
      show nk_Reader_readAttribute_189 i v2 (pk (smL g i q)) (q + 1) 0 t n = _
      unfold nk_Reader_readAttribute_189
      rw [if_pos rfl]
      unfold nk_Reader_readAttribute_205
      rw [c6, c4]
    rw [if_pos c1, en, ed _ _ _ (by omega) (by omega), eg q (by omega) (by omega), if_pos c2, ec _ _ _ (by omega) (by omega)]
    by_cases y : q + 1 < L
    · rw [if_pos y, en, ed _ _ _ (by omega) (by omega), eg _ (by omega) (by omega), if_neg (fun w => c3 ⟨y, .inl w⟩), en, ed _ _ _ (by omega) (by omega), if_neg (fun w => c3 ⟨y, .inr w⟩)]; exact e1
    · rw [if_neg y]; exact e1
  · rw [c2, c3, c4]
    by_cases y : q < L
    · rw [if_pos y, en, ed _ _ _ (by omega) (by omega), eg q (by omega) (by omega), if_neg (fun w => c1 ⟨y, w⟩)]
    · rw [if_neg y]
/-- the reference takes the bytes of a value -/
theorem y_value (hb : 0 ≤ m 76 0 ∧ m 76 0 ≤ 2000) (hg : ∀ j, 0 ≤ j → j < m 76 0 → isTx (m 75 j)) (hi : 0 ≤ b ∧ b ≤ t ∧ t ≤ m 76 0) : ev (NL_Y_readAttribute_236 v1 v2 v5 t b 0 m) (fun x => x.1 = t ∧ FY [77, 88] m x.2.2 ∧ x.2.1 = ((vlL (m 75) b t).length : Int) ∧ sg (x.2.2 88) 0 x.2.1.toNat = vlL (m 75) b t) := by
  unfold NL_Y_readAttribute_236
  refine ev_it (fun s : Int × Int × YS => b ≤ s.1 ∧ s.1 ≤ t ∧ FY [77, 88] m s.2.2 ∧ ∃ dn, dcl 0 (m 75) b t = dn ++ dcl 0 (m 75) s.1 t ∧ s.2.1 = (((dn.map Prod.snd).take 60).length : Int) ∧ sg (s.2.2 88) 0 ((dn.map Prod.snd).take 60).length = (dn.map Prod.snd).take 60) (fun s => t - s.1) (fun s hs => ?_) ⟨Int.le_refl _, hi.2.1, fun _ _ => rfl, [], rfl, rfl, rfl⟩
  obtain ⟨k, c, m1⟩ := s
  obtain ⟨q1, q2, q3, dn, q4, q5, q6⟩ := hs
  simp only at q1 q2 q3 q4 q5 q6
  show ev (nb_Y_readAttribute_236 v1 v2 v5 t k c m1) _
  have e75 : m1 75 = m 75 := q3 75 (by decide)
  have hlen : ((dn.map Prod.snd).take 60).length = min 60 dn.length := by rw [List.length_take, List.length_map]
  unfold nb_Y_readAttribute_236
  refine ev_if (fun hk => ?_) (fun hk => ?_)
  · refine ev_b2 (y_ent (f := 75) (g := m 75) (by decide) e75 ⟨by omega, hk, by show t ≤ ((2000 : Nat) : Int); omega, by omega⟩) (fun w m2 hw => ?_)
    obtain ⟨w1, w2, w3⟩ := hw
    simp only at w1 w2 w3
    have hst := entL_b (g := m 75) hk
    have hd := dcl_1 (r := 0) (g := m 75) hk
    have es : stL 0 (m 75) k t = entL (m 75) k t := by unfold stL; rw [if_pos rfl]
    have eb : stB 0 (m 75) k t = w := by unfold stB; rw [if_pos rfl, w1]
    rw [es, eb] at hd
    have hw : isTx w := by
      have := (dcl_in (r := 0) (g := m 75) (to := t) (L := m 76 0) hg hi.2.2 (t - k).toNat k (by omega) (k, w) (by
        show (k, w) ∈ dcl 0 (m 75) k t
        rw [hd]; exact List.mem_cons_self)).1
      exact this
    have bm : Int.bmod w 256 = w := bmod_id (by omega)
    have q4' : dcl 0 (m 75) b t = (dn ++ [(k, w)]) ++ dcl 0 (m 75) (k + entL (m 75) k t) t := by rw [q4, hd, List.append_assoc]; rfl
    have f2 : FY [77, 88] m m2 := fun x hx => by
      rw [w2 x (by simp only [List.mem_cons, List.not_mem_nil, or_false, not_or] at hx ⊢; exact hx.1)]; exact q3 x hx
    refine ev_if (fun h60 => ?_) (fun h60 => ?_)
    · refine ev_ix (by omega) (ev_st (ev_ck (by omega) ?_))
      rw [bm]
      unfold nk_Y_readAttribute_275
      rw [show yw m2 88 c w 77 0 = entL (m 75) k t by rw [yw_nF (by decide)]; exact w3]
      have hl60 : dn.length < 60 := by omega
      have t1 : (dn.map Prod.snd).take 60 = dn.map Prod.snd := List.take_of_length_le (by rw [List.length_map]; omega)
      have t2 : ((dn ++ [(k, w)]).map Prod.snd).take 60 = dn.map Prod.snd ++ [w] := by rw [List.map_append]; exact List.take_of_length_le (by rw [List.length_append, List.length_map]; show dn.length + 1 ≤ 60; omega)
      rw [t1] at q5 q6
      refine ev_ck (by omega) (ev_inl ⟨⟨by show b ≤ k + _; omega, by show k + _ ≤ t; omega, fun x hx => ?_, dn ++ [(k, w)], q4', ?_, ?_⟩, by show t - (k + _) < t - k; omega, by show 0 ≤ t - k; omega⟩)
      · show yw m2 88 c w x = m x
        rw [yw_nF (by simp only [List.mem_cons, List.not_mem_nil, or_false, not_or] at hx; exact hx.2)]; exact f2 x hx
      · rw [t2, List.length_append]
        show c + 1 = _
        rw [q5]; rfl
      · rw [t2]
        show sg (yw m2 88 c w 88) 0 _ = _
        refine sg_ext (t := m1 88) q5 q6 (fun j j0 j1 => ?_) ?_
        · rw [yw_ni (by omega), w2 88 (by decide)]
        · show [yw m2 88 c w 88 c] = [w]
          rw [yw_eq]
    · unfold nk_Y_readAttribute_275
      rw [w3]
      have hl60 : 60 ≤ dn.length := by omega
      have t2 : ((dn ++ [(k, w)]).map Prod.snd).take 60 = (dn.map Prod.snd).take 60 := by rw [List.map_append]; exact List.take_append_of_le_length (by rw [List.length_map]; omega)
      refine ev_ck (by omega) (ev_inl ⟨⟨by show b ≤ k + _; omega, by show k + _ ≤ t; omega, f2, dn ++ [(k, w)], q4', by rw [t2]; exact q5, ?_⟩, by show t - (k + _) < t - k; omega, by show 0 ≤ t - k; omega⟩)
      rw [t2]
      show sg (m2 88) 0 _ = _
      rw [w2 88 (by decide)]; exact q6
  · have hkt : k = t := by omega
    subst hkt
    rw [dcl_0 (show ¬ k < k by omega), List.append_nil] at q4
    unfold vlL
    rw [q4]
    exact ev_inr ⟨rfl, q3, q5, by show sg (m1 88) 0 c.toNat = _; rw [show c.toNat = ((dn.map Prod.snd).take 60).length by omega]; exact q6⟩
theorem y_readAttr (hb : 0 ≤ m 76 0 ∧ m 76 0 ≤ 2000) (hg : ∀ j, 0 ≤ j → j < m 76 0 → isTx (m 75 j)) (hi : 0 ≤ i ∧ i < m 76 0) (hA : ATR (m 75) (m 76 0) i q b t z) :
    ∃ m', N_Y_readAttribute i m = nk_Y_readAttribute_314 i ((smL (m 75) i q).length : Int) (min z (m 76 0)) ((vlL (m 75) b t).length : Int) m' ∧ FY [77, 87, 88] m m' ∧ sg (m' 87) 0 (smL (m 75) i q).length = smL (m 75) i q ∧ sg (m' 88) 0 (vlL (m 75) b t).length = vlL (m 75) b t := by
  have hz := hA.b hi
  obtain ⟨⟨c, k, m1⟩, e1, n1, n2, n3, n4⟩ := y_attrName hb hg hi
  simp only at n1 n2 n3 n4
  rw [← hA.1] at n1
  subst n1
  have hc : c = ((smL (m 75) i k).length : Int) := by unfold smL; rw [sg_len]; omega
  have hcn : c.toNat = (smL (m 75) i k).length := by omega
  rw [hcn] at n4
  have e75 : m1 75 = m 75 := n2 75 (by decide)
  have e76 : m1 76 = m 76 := n2 76 (by decide)
  have u1 : N_Y_readAttribute i m = nk_Y_readAttribute_93 i c k m1 := by unfold N_Y_readAttribute; rw [e1]; rfl
  have ec : ∀ (α : Type) (x : Option α) (j : Int), -10 ≤ j → j ≤ 5000 → ck j x = x := fun α x j j0 j1 => by unfold ck; rw [if_pos (by omega)]
  have ei : ∀ (α : Type) (x : Option α) (j : Int), 0 ≤ j → j < m 76 0 → ix j 2000 x = x := fun α x j j0 j1 => by unfold ix; rw [if_pos (by omega)]
  rw [u1]
  unfold nk_Y_readAttribute_93
  rw [e75, e76]
  -- a value is there
  have val : ∀ w s, 0 ≤ s → s ≤ m 76 0 → b = s → b ≤ t → NL_Y_readAttribute_176 i c s 0 w s m1 = some t → (0 < w → z = t + 1) → (¬ 0 < w → z = t) → ∃ m', nk_Y_readAttribute_172 i c 0 w s m1 = nk_Y_readAttribute_314 i ((smL (m 75) i k).length : Int) (min z (m 76 0)) ((vlL (m 75) b t).length : Int) m' ∧ FY [77, 87, 88] m m' ∧ sg (m' 87) 0 (smL (m 75) i k).length = smL (m 75) i k ∧ sg (m' 88) 0 (vlL (m 75) b t).length = vlL (m 75) b t := fun w s s0 s1 hs hbt he hw1 hw0 => by
    obtain ⟨⟨t', c', m2⟩, x1, x2, x3, x4, x5⟩ := y_value (m := m1) (b := b) (t := t) (v1 := i) (v2 := c) (v5 := w) (by rw [e76]; exact hb) (by rw [e75, e76]; exact hg) (by rw [e76]; omega)
    simp only at x2 x3 x4 x5
    rw [e75] at x4 x5
    have x6 : c'.toNat = (vlL (m 75) b t).length := by omega
    rw [x6] at x5
    subst x2
    have g76 : m2 76 = m 76 := by rw [x3 76 (by decide), e76]
    refine ⟨m2, ?_, fun f hf => ?_, ?_, x5⟩
    · unfold nk_Y_readAttribute_172
      rw [he]
      simp only [Option.bind_some]
      rw [← hs, x1]
      show (if 0 < w then (if t' < m2 76 0 then ck (t' + 1) (nk_Y_readAttribute_314 i c (t' + 1) c' m2) else nk_Y_readAttribute_304 i c t' c' w m2) else nk_Y_readAttribute_304 i c t' c' w m2) = _
      rw [g76, ← x4, ← hc]
      by_cases hw : 0 < w
      · rw [if_pos hw]
        have := hw1 hw
        by_cases ht : t' < m 76 0
        · rw [if_pos ht, ec _ _ _ (by omega) (by omega), show min z (m 76 0) = t' + 1 by omega]
        · rw [if_neg ht]
          unfold nk_Y_readAttribute_304
          rw [if_pos hw, g76, show min z (m 76 0) = m 76 0 by omega]
      · rw [if_neg hw]
        have := hw0 hw
        unfold nk_Y_readAttribute_304
        rw [if_neg hw, show min z (m 76 0) = t' by omega]
    · simp only [List.mem_cons, List.not_mem_nil, or_false, not_or] at hf
      rw [x3 f (by simp only [List.mem_cons, List.not_mem_nil, or_false, not_or]; exact ⟨hf.1, hf.2.2⟩), n2 f (by simp only [List.mem_cons, List.not_mem_nil, or_false]; exact hf.2.1)]
    · rw [x3 87 (by decide)]; exact n4
  rcases hA.2 with ⟨c1, c2, c3, c4, c5, c6, c7⟩ | ⟨c1, c2, c3, c4, c5, c6⟩ | ⟨c1, c2, c3, c4⟩
  · rw [if_pos c1, ei _ _ _ (by omega) (by omega), if_pos c2, ec _ _ _ (by omega) (by omega), if_pos c3, ei _ _ _ (by omega) (by omega)]
    have hpos : 0 < m 75 (k + 1) := by omega
    have e2 : nk_Y_readAttribute_148 i c (k + 1) 0 m1 = nk_Y_readAttribute_172 i c 0 (m 75 (k + 1)) (k + 2) m1 := by
      unfold nk_Y_readAttribute_148
      rw [ei _ _ _ (by omega) (by omega), e75]
      unfold nk_Y_readAttribute_158
      rw [if_pos hpos, ec _ _ _ (by omega) (by omega), show k + 1 + 1 = k + 2 by omega]
    have := val (m 75 (k + 1)) (k + 2) (by omega) (by omega) c5 (by omega) (by rw [y_quoteEnd (by rw [e76]; exact hb) (by rw [e76]; omega) hpos, e75, e76, ← c6]) (fun _ => c7) (fun w => absurd hpos w)
    rw [← e2] at this
    rcases c4 with y | y
    · rw [if_pos y]; exact this
    · rw [if_neg (by omega), ei _ _ _ (by omega) (by omega), if_pos y]; exact this
  · rw [if_pos c1, ei _ _ _ (by omega) (by omega), if_pos c2, ec _ _ _ (by omega) (by omega)]
    have e2 : nk_Y_readAttribute_157 i c (k + 1) 0 m1 = nk_Y_readAttribute_172 i c 0 0 (k + 1) m1 := by
      unfold nk_Y_readAttribute_157 nk_Y_readAttribute_158
      rw [if_neg (by decide)]
    have := val 0 (k + 1) (by omega) (by omega) c4 (by omega) (by rw [y_plainEnd (by rw [e76]; exact hb) (by rw [e76]; omega) (by decide), e75, e76, ← c5]) (fun w => absurd w (by decide)) (fun _ => c6)
    rw [← e2] at this
    by_cases y : k + 1 < m 76 0
    · rw [if_pos y, ei _ _ _ (by omega) (by omega), if_neg (fun w => c3 ⟨y, .inl w⟩), ei _ _ _ (by omega) (by omega), if_neg (fun w => c3 ⟨y, .inr w⟩)]; exact this
    · rw [if_neg y]; exact this
  · have hv : vlL (m 75) b t = [] := by unfold vlL; rw [c2, c3, dcl_0 (by omega)]; rfl
    refine ⟨m1, ?_, fun f hf => n2 f (by simp only [List.mem_cons, List.not_mem_nil, or_false, not_or] at hf ⊢; exact hf.2.1), n4, by rw [hv]; rfl⟩
    rw [hv, ← hc]
    show _ = nk_Y_readAttribute_314 i c (min z (m 76 0)) 0 m1
    rw [show min z (m 76 0) = k by omega]
    by_cases y : k < m 76 0
    · rw [if_pos y, ei _ _ _ (by omega) (by omega), if_neg (fun w => c1 ⟨y, w⟩)]
    · rw [if_neg y]
end H3
