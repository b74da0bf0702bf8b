/-! A PAGE IS READ, in both -/
section I6
variable {Z : NS × YS} {n n' : NS} {m m' : YS} {A B N oc i a L : Int} {o e p qs : Int → Int}
/-- one step of both loops -/
def ONE (Z : NS × YS) (A B : Int) (i gd L : Int) (n : NS) (m : YS) : Prop := ∃ n' m' to N' o' e' p' qs' oc', nb_Reader_read_46 L gd n = some (.inl (gd + 1, n')) ∧ nb_Y_readPage_23 i m = some (.inl (to, m')) ∧ JR Z A B n' m' N' o' e' p' qs' oc' ∧ n' 8 0 10 = to ∧ i < to ∧ to ≤ L ∧ JCn Z n' m' to ∧ m' 76 = m 76
theorem step_any {gd : Int} (hNT : NT Z.1) (hJ : JR Z A B n m N o e p qs oc) (hC : JCn Z n m i) (ha : n 8 0 10 = i) (hi : 0 ≤ i ∧ i < m 76 0) (hL : L = m 76 0) (hg : 0 ≤ gd ∧ gd ≤ i) : ONE Z A B i gd L n m := by
  have hS := hJ.2.2.2.2.1
  have hb := hS.1.2.2.2
  have hO := hJ.2.2.2.2.2.1
  obtain ⟨o1, o2, o3, o4⟩ := hO.1
  obtain ⟨hk1, hk2, hk3, hk4, hk5, hk6⟩ := hO.2.2.1 (oc - 1) (by omega) (by omega)
  have hv := hJ.2.1.1.1.oB hk1.1 hk1.2
  have htag := (hJ.2.1.2.2.2 _ hk1.1 hk1.2).1.1
  subst hL
  have eC : nb_Reader_read_46 (m 76 0) gd n = nk_Reader_read_94 (m 76 0) gd (if m 46 (o (qs (oc - 1))) = 15 then 1 else 0) n := by
    unfold nb_Reader_read_46 ck ix
    rw [if_neg (by omega), ha, hS.1.2.1, if_pos hi.2, o1, if_pos (by omega), if_pos (by omega), hk3, if_pos hv, htag]
    split <;> rfl
  have eY : nb_Y_readPage_23 i m = if m 46 (o (qs (oc - 1))) = 15 then ((N_Y_endsStyle i m).bind fun z13 => if z13 = 0 then (N_Y_run i 1 m).bind (u2 fun z18 m21 => some (.inl (z18, m21))) else nk_Y_readPage_70 i m) else nk_Y_readPage_70 i m := by
    unfold nb_Y_readPage_23 ck ix
    rw [if_pos hi.2, o2, if_pos (by omega), if_pos (by omega), hk4, if_pos hv]
  have fin : ∀ X Y, STEP Z A B i qs X Y m → nb_Reader_read_46 (m 76 0) gd n = (X.bind fun n12 => ck (gd + 1) (some (.inl (gd + 1, n12)))) → nb_Y_readPage_23 i m = (Y.bind (u2 fun z m1 => some (.inl (z, m1)))) → ONE Z A B i gd (m 76 0) n m := fun X Y h e1 e2 => by
    obtain ⟨n', m', to, N', o', e', p', qs', oc', a1, a2, a3, a4, a5, a6, a7, a8⟩ := h
    refine ⟨n', m', to, N', o', e', p', qs', oc', ?_, ?_, a3, a4, a5, a6, a7, a8⟩
    · rw [e1, a1]
      show ck (gd + 1) _ = _
      unfold ck
      rw [if_pos (by omega)]
    · rw [e2, a2]; rfl
  have rest : nb_Reader_read_46 (m 76 0) gd n = nk_Reader_read_128 (m 76 0) gd n → nb_Y_readPage_23 i m = nk_Y_readPage_70 i m → ONE Z A B i gd (m 76 0) n m := fun e1 e2 => by
    unfold nk_Reader_read_128 at e1
    unfold nk_Y_readPage_70 at e2
    obtain ⟨x1, ex1, hx1⟩ := c_isTag hS.1 hi
    obtain ⟨x2, ex2, hx2⟩ := c_isComment hS.1 hi
    obtain ⟨y1, ey1, hy1⟩ := y_isNoteA (m := m) (i := i) rfl rfl hb ⟨hi.1, by omega⟩
    obtain ⟨y2, ey2, hy2⟩ := y_isTagA (m := m) (i := i) rfl rfl hb hi
    rw [ha, ex1] at e1
    simp only [Option.bind_some] at e1
    rw [ey1] at e2
    simp only [Option.bind_some] at e2
    by_cases ht : tgA (m 75) (m 76 0) i
    · have q1 : x1 = 1 := bz_un hx1 (.inl ⟨rfl, ht⟩)
      have q2 : y2 = 1 := bz_un hy2 (.inl ⟨rfl, ht⟩)
      have q3 : y1 = 0 := bz_un hy1 (.inr ⟨rfl, fun z => by
        have h1 := z.2.2.1
        rcases ht.2 with w | w
        · have := w.2; unfold isLt at this; omega
        · omega⟩)
      rw [if_neg (by omega)] at e1
      rw [if_pos q3, ey2] at e2
      simp only [Option.bind_some] at e2
      rw [if_neg (by omega)] at e2
      exact fin _ _ (step_tag hNT hJ hC ha hi ht) e1 e2
    · have q1 : x1 = 0 := bz_un hx1 (.inr ⟨rfl, ht⟩)
      have q2 : y2 = 0 := bz_un hy2 (.inr ⟨rfl, ht⟩)
      rw [if_pos q1, ex2] at e1
      simp only [Option.bind_some] at e1
      by_cases hc : cmA (m 75) (m 76 0) i
      · rw [if_neg (by rw [bz_un hx2 (.inl ⟨rfl, hc⟩)]; decide)] at e1
        rw [if_neg (by rw [bz_un hy1 (.inl ⟨rfl, hc⟩)]; decide)] at e2
        exact fin _ _ (step_comment hJ hC ha hi hc) e1 e2
      · rw [if_pos (bz_un hx2 (.inr ⟨rfl, hc⟩))] at e1
        rw [if_pos (bz_un hy1 (.inr ⟨rfl, hc⟩)), ey2] at e2
        simp only [Option.bind_some] at e2
        rw [if_pos q2] at e2
        exact fin _ _ (step_text hJ hC ha hi) e1 e2
  by_cases h15 : m 46 (o (qs (oc - 1))) = 15
  · rw [if_pos h15] at eC eY
    unfold nk_Reader_read_94 at eC
    rw [if_neg (by decide), ha, hS.1.2.1] at eC
    obtain ⟨x, ex, hx⟩ := cs_stands (i := i) hS.1.1 okS10 (Int.le_refl (m 76 0)) hi.1 (by omega) (by omega) (by decide)
    obtain ⟨y, ey, hy⟩ := y_endsStyleA (m := m) (i := i) rfl rfl hb ⟨hi.1, by omega⟩
    rw [show ∀ (x : Option ((Int × NS) ⊕ NS)), nn (n 8 0 8) x = x from fun x => by unfold nn; rw [if_pos hS.1.2.2.1], ex] at eC
    rw [ey] at eY
    simp only [Option.bind_some] at eC eY
    by_cases hst : stA (m 75) (m 76 0) i
    · rw [if_neg (by rw [bz_un hx (.inl ⟨rfl, mt_st.mpr hst⟩)]; decide)] at eC
      rw [if_neg (by rw [bz_un hy (.inl ⟨rfl, hst⟩)]; decide)] at eY
      exact rest eC eY
    · rw [if_pos (bz_un hx (.inr ⟨rfl, fun z => hst (mt_st.mp z)⟩))] at eC
      rw [if_pos (bz_un hy (.inr ⟨rfl, hst⟩))] at eY
      exact fin _ _ (step_raw hJ hC ha hi hst) eC eY
  · rw [if_neg h15] at eC eY
    unfold nk_Reader_read_94 at eC
    rw [if_pos rfl] at eC
    exact rest eC eY
theorem pageLoop (hNT : NT Z.1) : ∀ d : Nat, ∀ i gd n m N o e p qs oc, JR Z A B n m N o e p qs oc → JCn Z n m i → n 8 0 10 = i → m 76 0 - i ≤ (d : Int) → 0 ≤ i ∧ i ≤ m 76 0 → 0 ≤ gd ∧ gd ≤ i → L = m 76 0 → ∃ n' m' N' o' e' p' qs' oc', NL_Reader_read_46 L gd n = some n' ∧ NL_Y_readPage_23 i m = some m' ∧ JR Z A B n' m' N' o' e' p' qs' oc' ∧ JCn Z n' m' L ∧ m' 76 = m 76 := by
  intro d
  induction d with
  | zero =>
    intro i gd n m N o e p qs oc hJ hC ha hd hi hg hL
    have hS := hJ.2.2.2.2.1
    refine ⟨n, m, N, o, e, p, qs, oc, ?_, ?_, hJ, by rw [hL, show m 76 0 = i by omega]; exact hC, rfl⟩
    · unfold NL_Reader_read_46
      refine it_inr ?_
      show nb_Reader_read_46 L gd n = _
      unfold nb_Reader_read_46
      rw [if_neg (by omega), ha, hS.1.2.1, if_neg (by omega)]
    · unfold NL_Y_readPage_23
      refine it_inr ?_
      show nb_Y_readPage_23 i m = _
      unfold nb_Y_readPage_23
      rw [if_neg (by omega)]
  | succ d ih =>
    intro i gd n m N o e p qs oc hJ hC ha hd hi hg hL
    by_cases hlt : i < m 76 0
    · obtain ⟨n1, m1, to, N', o', e', p', qs', oc', a1, a2, a3, a4, a5, a6, a7, a8⟩ := step_any hNT hJ hC ha ⟨hi.1, hlt⟩ hL hg
      obtain ⟨n2, m2, N2, o2, e2, p2, qs2, oc2, b1, b2, b3, b4, b5⟩ := ih to (gd + 1) n1 m1 N' o' e' p' qs' oc' a3 a7 a4 (by rw [a8]; omega) (by rw [a8]; omega) (by omega) (by rw [a8]; exact hL)
      refine ⟨n2, m2, N2, o2, e2, p2, qs2, oc2, ?_, ?_, b3, b4, by rw [b5, a8]⟩
      · rw [← b1]; unfold NL_Reader_read_46; exact it_inl a1
      · rw [← b2]; unfold NL_Y_readPage_23; exact it_inl a2
    · exact ih i gd n m N o e p qs oc hJ hC ha (by omega) hi hg hL
theorem readPage_both (hB : BI A B n) (ht : tx n a (m 75) (m 76 0)) (hb : 0 ≤ m 76 0 ∧ m 76 0 ≤ 2000) (ha : 0 ≤ a ∧ a < n 90 0 0) (hr : ∀ b, 0 ≤ b → b ≤ 604 → n 4 b 1 ≠ a) (hx : ∀ j, 0 ≤ j → j < m 76 0 → isTx (m 75 j))
    (hc : 0 ≤ n 10 0 6 ∧ n 10 0 6 < 999999999 ∧ 0 ≤ m 69 0 ∧ m 69 0 < 1000000000) (h7 : n 10 0 7 = m 69 0) (h4 : n 10 0 4 ≤ n 10 0 6) (hNT : NT n) :
    ∃ n' m' N' o' e' p', N_Reader_read a (m 76 0) n = some n' ∧ N_Y_readPage m = some m' ∧ BI A B n' ∧ JT n' m' N' o' e' p' ∧ JP m' N' o' p' ∧ JF n' m' ∧ FRR n n' ∧ FYR m m' ∧ n' 10 0 6 ≤ n 10 0 6 + 2002 ∧ m' 69 0 ≤ m 69 0 + 2001 ∧ wtS m' ≤ m 76 0 + 4 ∧ n 10 0 6 < n' 10 0 6 ∧ m' 46 0 ≠ 17 := by
  -- the class begins
  generalize hn1 : nw (nw (nw (nw (nw n 8 0 8 a) 8 0 9 (m 76 0)) 8 0 10 0) 8 0 3 0) 8 0 11 (-1) = n1
  have k1 : ∀ K, K ≠ 8 → n1 K = n K := fun K hK => by rw [← hn1, nw_nK hK, nw_nK hK, nw_nK hK, nw_nK hK, nw_nK hK]
  have s8 : n1 8 0 8 = a ∧ n1 8 0 9 = m 76 0 ∧ n1 8 0 10 = 0 ∧ n1 8 0 3 = 0 ∧ n1 8 0 11 = -1 := by
    rw [← hn1]
    refine ⟨?_, ?_, ?_, ?_, nw_eq⟩
    · rw [nw_ns (by decide), nw_ns (by decide), nw_ns (by decide), nw_ns (by decide), nw_eq]
    · rw [nw_ns (by decide), nw_ns (by decide), nw_ns (by decide), nw_eq]
    · rw [nw_ns (by decide), nw_ns (by decide), nw_eq]
    · rw [nw_ns (by decide), nw_eq]
  have e10 := k1 10 (by decide)
  obtain ⟨n2, ec, n5, c1, c2, c3, c4, c5, c6⟩ := c_empty (n := n1) (by rw [e10, h7]; omega)
  rw [k1 21 (by decide), hNT 0 (by decide) (by decide)] at c6
  -- the reference
  generalize hm1 : yw m 70 0 0 = m1
  have f1 : FY [70] m m1 := fun f hf => by rw [← hm1]; exact yw_nF (by simp only [List.mem_cons, List.not_mem_nil, or_false] at hf; exact hf)
  obtain ⟨m2, ey, m5, y1, y2, y3, y4⟩ := y_empty (m := m1) (by rw [f1 69 (by decide)]; omega)
  have e69 : m5 69 0 = m 69 0 := by rw [y1 69 (by decide), f1 69 (by decide)]
  obtain ⟨r1, r2, r3⟩ := J_root (c := pk (tgK 0)) y2 y3 c3 c5 (by rw [c4 7 (by decide), e10, e69]; exact h7) (by rw [e69]; omega) (by rw [c4 4 (by decide), c4 6 (by decide), e10]; exact h4)
  have y4 : m2 = rootY m5 := y4
  have hB5 : BI A B n5 := by
    have q : ∀ K, K ≠ 7 → K ≠ 10 → K ≠ 8 → n5 K = n K := fun K x y z => by rw [c1 K x y, k1 K z]
    exact hB.cg (q 4 (by decide) (by decide) (by decide)) (by rw [q 5 (by decide) (by decide) (by decide)]; exact ⟨rfl, rfl⟩) (q 90 (by decide) (by decide) (by decide)) (q 91 (by decide) (by decide) (by decide)) (q 92 (by decide) (by decide) (by decide)) (q 93 (by decide) (by decide) (by decide))
  obtain ⟨hB2, hb2⟩ := newC_BI (n := n5) (f := 0) (k := -1) (t := 0) (c := pk (tgK 0)) hB5 ⟨by decide, by decide⟩
  have cv := newC_v (n := n5) (v := 0) (q := -1) (t := 0) (c := pk (tgK 0)) (by decide)
  rw [← c6] at r1 r2 r3 hB2 hb2 cv
  rw [← y4] at r1
  have nK2 : ∀ K, K ≠ 7 → K ≠ 4 → K ≠ 10 → K ≠ 8 → n2 K = n K := fun K x y z w => by rw [c6, newC_K ⟨x, y, z⟩, c1 K x z, k1 K w]
  have n28 : n2 8 = n1 8 := by rw [c6, newC_K (by decide), c1 8 (by decide) (by decide)]
  have mK2 : ∀ f : Nat, 70 ≤ f → m2 f = m1 f := fun f hf => by
    rw [y4, rootY_n (by omega)]
    have : newY0 m5 0 (-1) 0 f = m5 f := by
      funext u
      have := newY_o (m := m5) (v := 0) (q := -1) (d := 0) (f := f) (i := u) (by decide) (by omega) (by omega) (by omega)
      rw [show newY m5 0 (-1) 0 = newY0 m5 0 (-1) 0 from if_pos rfl] at this
      exact this
    rw [this, y1 f (by simp only [List.mem_cons, List.not_mem_nil, or_false]; omega)]
  have rv := rootY_v (m5 := m5)
  rw [← y4] at rv
  have e46 : m2 46 0 = 0 := by rw [y4]; unfold rootY; rw [yw_nF (by decide), yw_nF (by decide), yw_nF (by decide), yw_nF (by decide), yw_eq]
  have e48 : m2 48 0 = 3 := by rw [y4]; unfold rootY; rw [yw_eq]
  have enm : nmL m2 0 = tgK 0 := by
    unfold nmL
    rw [e48]
    show [m2 47 (8 * 0), m2 47 (8 * 0 + 1), m2 47 (8 * 0 + 1 + 1)] = [100, 105, 118]
    have a0 : m2 47 (8 * 0) = 100 := by rw [y4]; unfold rootY; rw [yw_nF (by decide), yw_ni (by decide), yw_ni (by decide)]; exact yw_eq
    have a1 : m2 47 (8 * 0 + 1) = 105 := by rw [y4]; unfold rootY; rw [yw_nF (by decide), yw_ni (by decide)]; exact yw_eq
    have a2 : m2 47 (8 * 0 + 1 + 1) = 118 := by rw [y4]; unfold rootY; rw [yw_nF (by decide)]; exact yw_eq
    rw [a0, a1, a2]
  have e56 : m2 56 0 = 0 := by rw [y4, rootY_n (by decide)]; simp [newY0, yw_app]
  have hND : ND n2 m2 0 := by
    refine ⟨⟨by rw [cv.1, e46], by rw [e46]; decide, by rw [e46]; decide⟩, ⟨by rw [e48]; decide, by rw [e48]; decide, by rw [enm]; exact tgK_bt (by decide) (by decide), by rw [enm]; exact cv.2.1⟩, ⟨by rw [e56]; exact cv.2.2.2.2.2.2.2.2.2.1, by rw [e56]; decide, by rw [e56]; decide⟩, fun a a0 a1 => by rw [e56] at a1; omega, fun z => by rw [e46] at z; omega, fun z => by rw [e46] at z; omega, fun _ => by rw [e46, enm]; decide⟩
  have hT2 : JT n2 m2 1 (fun _ => 0) (fun _ => 1) (fun _ => 0) := ⟨r1, r2, r3, fun k _ _ => hND⟩
  -- the open elements
  generalize hn3 : nw (nw n2 30 0 0 0) 8 0 6 1 = n3
  generalize hm3 : yw (yw m2 73 0 0) 74 0 1 = m3
  have fk3 : FRk n2 n3 := by
    rw [← hn3]
    exact ⟨fun K x _ _ y _ => by rw [nw_nK x, nw_nK y], by rw [nw_ns (by decide), nw_nK (by decide)], by rw [nw_ns (by decide), nw_nK (by decide)]⟩
  have n3s : ∀ s, s ≠ 6 → n3 8 0 s = n1 8 0 s := fun s hs => by rw [← hn3, nw_ns hs, nw_nK (by decide), n28]
  have f3 : FY [73, 74] m2 m3 := fun f hf => by
    simp only [List.mem_cons, List.not_mem_nil, or_false, not_or] at hf
    rw [← hm3, yw_nF hf.2, yw_nF hf.1]
  have hy3 : ∀ f, 45 ≤ f → f ≤ 69 → m3 f = m2 f := fun f x y => f3 f (by simp only [List.mem_cons, List.not_mem_nil, or_false, not_or]; omega)
  have e70 : m3 70 0 = 0 := by rw [f3 70 (by decide), mK2 70 (by decide), ← hm1, yw_eq]
  have e75 : m3 75 = m 75 := by rw [f3 75 (by decide), mK2 75 (by decide), f1 75 (by decide)]
  have e76 : m3 76 = m 76 := by rw [f3 76 (by decide), mK2 76 (by decide), f1 76 (by decide)]
  have frr : FRR n n3 := by
    have q1 : FRR n n5 := FRR.ks (fun K c => by
      simp only [List.mem_cons, List.not_mem_nil, or_false, not_or] at c
      rw [c1 K (by omega) (by omega), k1 K (by omega)]) (by rw [c4 6 (by decide), e10]; exact Int.le_refl _)
    have q2 := newC_FRR (n := n5) (f := 0) (k := -1) (t := 0) (c := pk (tgK 0)) ⟨by decide, by decide⟩
    rw [← c6] at q2
    exact (q1.trans q2).trans (FRR.rk fk3)
  have fyr : FYR m m3 := by
    intro f hf
    rw [f3 f (by simp only [List.mem_cons, List.not_mem_nil, or_false, not_or]; omega)]
    by_cases z : 70 ≤ f
    · rw [mK2 f z, f1 f (by simp only [List.mem_cons, List.not_mem_nil, or_false]; omega)]
    · rw [y4, rootY_n (by omega)]
      have : newY0 m5 0 (-1) 0 f = m5 f := by
        funext u
        have := newY_o (m := m5) (v := 0) (q := -1) (d := 0) (f := f) (i := u) (by decide) (by omega) (by omega) (by omega)
        rw [show newY m5 0 (-1) 0 = newY0 m5 0 (-1) 0 from if_pos rfl] at this
        exact this
      rw [this, y1 f (by simp only [List.mem_cons, List.not_mem_nil, or_false]; omega), f1 f (by simp only [List.mem_cons, List.not_mem_nil, or_false]; omega)]
  have c106 : n3 10 0 6 = n 10 0 6 + 1 := by rw [fk3.1 10 (by decide) (by decide) (by decide) (by decide) (by decide), c6, newC_10, if_neg (by decide), if_pos rfl, c4 6 (by decide), e10]
  have u69 : m3 69 0 = m 69 0 + 1 := by rw [f3 69 (by decide), rv.2.2.2.2.2.2.2.2.1, e69]
  have hJ3 : JR (n3, m) A B n3 m3 1 (fun _ => 0) (fun _ => 1) (fun _ => 0) (fun _ => 0) 1 := by
    refine ⟨hB2.rk fk3, hT2.rk fk3 hy3, fun k x y => by omega, ⟨by rw [n3s 3 (by decide), e70]; exact s8.2.2.2.1, by rw [e70]; decide, by rw [e70]; decide, fun j x y => by rw [e70] at y; omega⟩, ?_, ⟨⟨by rw [← hn3, nw_eq], by rw [← hm3, yw_eq], by decide, by decide⟩, rfl, fun j x y => ?_, fun j x y => by omega⟩, ⟨.inl (by rw [n3s 11 (by decide)]; exact s8.2.2.2.2), fun z => ?_⟩, ⟨by rw [c106]; omega, by show n3 10 0 6 < 1000000000; rw [c106]; omega, hc.2.2.2⟩, FRR.refl n3, fyr⟩
    · unfold JSrc RDR
      rw [e75, e76, n3s 8 (by decide), n3s 9 (by decide), s8.1, s8.2.1]
      have w1 := frr.2.2.2.1 a ha.2
      have w2 := frr.2.2.2.2.1 a ha.2 (fun b x y z => hr b x y z.symm)
      refine ⟨⟨⟨w1.1.trans ht.1, by rw [w1.2]; exact ht.2.1, fun j x y => by rw [w2]; exact ht.2.2 j x y⟩, rfl, ha.1, hb.1, hb.2⟩, by have := frr.2.2.1; omega, fun b x y z => ?_, hx⟩
      have := frr.2.2.2.2.2.1 b x y
      have := hr b x y
      omega
    · have : j = 0 := by omega
      subst this
      refine ⟨by decide, rfl, by rw [← hn3, nw_nK (by decide), nw_eq], by rw [← hm3, yw_nF (by decide), yw_eq], ?_, ?_⟩
      · show opN (m3 46 0)
        rw [hy3 46 (by decide) (by decide), e46]; decide
      · show m3 54 0 = 0
        rw [hy3 54 (by decide) (by decide)]; exact rv.2.2.2.2.2.1
    · exact absurd (show m3 51 0 = -1 by rw [hy3 51 (by decide) (by decide)]; exact rv.2.2.1) z
  have hw3 : wtS m3 = 4 := by
    rw [wtS_fy f3 (by decide)]
    unfold wtS
    rw [zsm_add (a := 0) (b := 1) (c := 120) (by decide) (by decide), show (1 : Int) = 0 + 1 by decide, zsm_succ (Int.le_refl 0), zsm_nil (Int.le_refl 0), zsm_z (a := 0 + 1) (b := 120) (fun v a b => ?_)]
    · show 0 + (if m2 45 0 = 1 then wt m2 0 else 0) + 0 = 4
      have e45 := rv.2.2.2.2.2.2.2.2.2 0
      rw [if_pos rfl] at e45
      rw [e45, if_pos rfl]
      unfold wt at1
      rw [e46, if_neg (by decide), e48, e56, if_neg (show ¬ (0 : Int) < 0 by decide), if_neg (show ¬ (1 : Int) < 0 by decide), if_neg (show ¬ (2 : Int) < 0 by decide), if_neg (show ¬ (3 : Int) < 0 by decide)]; rfl
    · show (if m2 45 v = 1 then wt m2 v else 0) = 0
      have e45 := rv.2.2.2.2.2.2.2.2.2 v
      rw [if_neg (by omega), y2 v (by omega) b] at e45
      rw [e45, if_neg (by decide)]
  have hC3 : JCn (n3, m) n3 m3 0 := by unfold JCn; rw [u69, e70, e76, hw3]; show n3 10 0 6 + (m 76 0 - 0) ≤ n3 10 0 6 + 2001 ∧ m 69 0 + 1 + (m 76 0 - 0) ≤ m 69 0 + 2001 ∧ (0 : Int) ≤ 30 * 0 ∧ (4 : Int) ≤ 0 + 4; omega
  have hNT3 : NT n3 := fun k a b => by rw [fk3.1 21 (by decide) (by decide) (by decide) (by decide) (by decide), nK2 21 (by decide) (by decide) (by decide) (by decide)]; exact hNT k a b
  obtain ⟨n4, m4, N4, o4, e4, p4, qs4, oc4, l1, l2, l3, l4, l5⟩ := pageLoop (L := m 76 0) (Z := (n3, m)) hNT3 (m 76 0).toNat 0 0 n3 m3 1 _ _ _ _ 1 hJ3 hC3 (by rw [n3s 10 (by decide)]; exact s8.2.2.1) (by rw [e76]; omega) (by rw [e76]; omega) ⟨by decide, by decide⟩ (by rw [e76])
  have hO4 := l3.2.2.2.2.2.1.1
  have h704 := l4.2.2.1
  obtain ⟨n6, m6, z1, z2, z3, z4, z5, z6, z7⟩ := close_both (lv := 0) (fr := 1) (own := -1) (oth := -1) (oc4 - 1).toNat l3 (by omega) (by decide) (by decide) (.inl rfl) (.inl rfl) (by omega)
  have hO6 := z3.2.2.2.2.2.1.1
  have yEnd : NL_Y_closeTo_0 1 (-1) (-1) m6 = some m6 := by
    unfold NL_Y_closeTo_0
    refine it_inr ?_
    show nb_Y_closeTo_0 1 (-1) (-1) m6 = _
    unfold nb_Y_closeTo_0
    rw [hO6.2.1, if_neg (by decide)]
  have fk7 : FRk n6 (nw n6 8 0 6 0) := ⟨fun K x _ _ _ _ => nw_nK x, nw_ns (by decide), nw_ns (by decide)⟩
  refine ⟨nw n6 8 0 6 0, m6, N4, o4, e4, p4, ?_, ?_, z3.1.rk fk7, z3.2.1.rk fk7 (fun _ _ _ => rfl), z3.2.2.1, ?_, frr.trans (z3.2.2.2.2.2.2.2.2.1.trans (FRR.rk fk7)), z3.2.2.2.2.2.2.2.2.2, ?_, ?_, by rw [wtS_fy z7 (by decide)]; exact l4.2.2.2, ?_, ?_⟩
  · show (st (nw n 8 0 8 a) fun n2 => st (nw n2 8 0 9 (m 76 0)) fun n6 => st (nw n6 8 0 10 0) fun n10 => st (nw n10 8 0 3 0) fun n14 => st (nw n14 8 0 11 (-1)) fun n18 => (N_Tree_clear n18).bind fun n23 => ix 0 22 <| st (nw n23 30 0 0 0) fun n28 => st (nw n28 8 0 6 1) fun n32 => (NL_Reader_read_46 (m 76 0) 0 n32).bind <| fun n35 => nk_Reader_read_174 n35) = _
    unfold st
    dsimp only
    rw [hn1, ec]
    show (if (0 : Int) ≤ 0 ∧ (0 : Int) < 22 then (NL_Reader_read_46 (m 76 0) 0 (nw (nw n2 30 0 0 0) 8 0 6 1)).bind (fun n35 => nk_Reader_read_174 n35) else none) = _
    rw [if_pos (by decide), hn3, l1]
    show (N_Reader_closeTo 0 n4).bind (fun n2 => some n2) = _
    unfold N_Reader_closeTo
    rw [z1]; rfl
  · show (st (yw m 70 0 0) fun m2 => (N_Y_emptyTree m2).bind fun m6 => ix 0 22 <| st (yw m6 73 0 0) fun m11 => st (yw m11 74 0 1) fun m15 => (NL_Y_readPage_23 0 m15).bind <| fun m18 => (N_Y_closeTo 1 (-1) (-1) m18).bind fun m22 => some m22) = _
    unfold st
    dsimp only
    rw [hm1, ey]
    show (if (0 : Int) ≤ 0 ∧ (0 : Int) < 22 then (NL_Y_readPage_23 0 (yw (yw m2 73 0 0) 74 0 1)).bind (fun m18 => (N_Y_closeTo 1 (-1) (-1) m18).bind fun m22 => some m22) else none) = _
    rw [if_pos (by decide), hm3, l2]
    show (N_Y_closeTo 1 (-1) (-1) m4).bind (fun m22 => some m22) = _
    unfold N_Y_closeTo
    rw [z2, yEnd]; rfl
  · have hF := z3.2.2.2.1
    unfold JF at *
    rw [nw_ns (show (3 : Int) ≠ 6 by decide), nw_nK (show (28 : Nat) ≠ 8 by decide), nw_nK (show (29 : Nat) ≠ 8 by decide)]; exact hF
  · have := l4.1
    rw [nw_nK (by decide), z6.1]
    have q : m4 76 0 = m 76 0 := by rw [l5, e76]
    rw [q] at this
    have this : n4 10 0 6 + (m 76 0 - m 76 0) ≤ n3 10 0 6 + 2001 := this
    omega
  · have := l4.2.1
    rw [z7 69 (by decide)]
    have q : m4 76 0 = m 76 0 := by rw [l5, e76]
    rw [q] at this
    have this : m4 69 0 + (m 76 0 - m 76 0) ≤ m 69 0 + 2001 := this
    omega
  · have : n3 10 0 6 ≤ nw n6 8 0 6 0 10 0 6 := (z3.2.2.2.2.2.2.2.2.1.trans (FRR.rk fk7)).2.2.2.2.2.2
    omega
  · have hO := z3.2.2.2.2.2.1
    have h := (hO.2.2.1 0 (Int.le_refl _) (by have := hO6.2.2.1; omega)).2.2.2.2.1
    rw [hO.2.1, z3.2.1.1.1.o0] at h
    unfold opN at h
    omega
end I6
