/-! A TAG, in both -/
section I5
variable {Z : NS × YS} {n n' : NS} {m m' : YS} {A B N oc i v1 v3 v5 t : Int} {o e p qs : Int → Int} {w : List Int}
/-- a tag that does not end -/
theorem JX.told (hX : JX Z A B n' m' N o e p qs oc) (hb : JFb n' m') (h70 : m' 70 0 < 90000) {w pl bf : Int} (hbf : bf = m' 70 0) : ∃ n2 m2, N_Reader_tell w pl (nw n' 8 0 3 bf) = some n2 ∧ N_Y_tellFault w pl m' = some m2 ∧ JR Z A B n2 m2 N o e p qs oc ∧ (∀ s, s ≠ 3 → n2 8 0 s = n' 8 0 s) ∧ n2 10 = n' 10 ∧ FY [70, 71, 72] m' m2 ∧ m2 70 0 = m' 70 0 + 1 := by
  have hX2 : JX Z A B (nw n' 8 0 3 bf) m' N o e p qs oc := hX.tl (fun K a _ _ => nw_nK a) (fun s hs => nw_ns hs)
  have hF2 : JF (nw n' 8 0 3 bf) m' := by
    obtain ⟨b1, b2, b3⟩ := hb
    refine ⟨by rw [nw_eq]; exact hbf, b1, by omega, fun j x y z => ?_⟩
    rw [nw_nK (by decide), nw_nK (by decide)]; exact b3 j x y z
  obtain ⟨n2, m2, t1, t2, t3, t4, t5, t6, t7⟩ := (hX2.r hF2).tell (w := w) (pl := pl) h70
  exact ⟨n2, m2, t1, t2, t3, fun s hs => by rw [t4 s hs, nw_ns hs], by rw [t5.1, nw_nK (by decide)], t6, t7⟩
theorem step_tag (hNT : NT Z.1) (hJ : JR Z A B n m N o e p qs oc) (hC : JCn Z n m i) (ha : n 8 0 10 = i) (hi : 0 ≤ i ∧ i < m 76 0) (ht : tgA (m 75) (m 76 0) i) : STEP Z A B i qs (N_Reader_readTag n) (N_Y_readTag i m) m := by
  obtain ⟨hX, hF⟩ := hJ.x
  have hS := hX.2.2.2.1
  have hL := hS.1.2.2.2
  have hg := hS.2.2.2
  have h1 := hS.1.1
  have h2 := hS.1.2.1
  have h3 := hS.1.2.2.1
  have hi1 : i + 1 < m 76 0 := by rcases ht.2 with y | y <;> omega
  -- whether it is an end tag
  have hz : ∃ z : Int, (z = 0 ∨ z = 1) ∧ i + 1 + z < m 76 0 ∧ tnC (m 75) (i + 1 + z) ∧ N_Reader_readTag n = nk_Reader_readTag_51 i (m 70 0) z (i + 1 + z) n ∧ N_Y_readTag i m = nk_Y_readTag_32 i z (i + 1 + z) m := by
    have eC : N_Reader_readTag n = if m 75 (i + 1) = 47 then nk_Reader_readTag_31 i (m 70 0) 1 n else nk_Reader_readTag_31 i (m 70 0) 0 n := by
      unfold N_Reader_readTag nn ck dx
      rw [if_pos h3, ha, if_pos (by omega), if_pos ⟨h1.1, by omega, by have := h1.2.1; omega⟩, h1.2.2 _ (by omega) hi1, hF.1]
    have eY : N_Y_readTag i m = if m 75 (i + 1) = 47 then nk_Y_readTag_18 i 1 m else nk_Y_readTag_18 i 0 m := by
      unfold N_Y_readTag ck ix
      rw [if_pos (by omega), if_pos (by omega)]
    by_cases y : m 75 (i + 1) = 47
    · rw [if_pos y] at eC eY
      rcases ht.2 with w | w
      · have := w.2; unfold isLt at this; omega
      refine ⟨1, .inr rfl, by omega, .inl (by rw [show i + 1 + 1 = i + 2 by omega]; exact w.2.2), ?_, ?_⟩
      · rw [eC]; unfold nk_Reader_readTag_31 ck
        rw [if_neg (by decide), ha, if_pos (by omega), show i + 2 = i + 1 + 1 by omega]
      · rw [eY]; unfold nk_Y_readTag_18 ck
        rw [if_neg (by decide), if_pos (by omega), show i + 2 = i + 1 + 1 by omega]
    · rw [if_neg y] at eC eY
      rcases ht.2 with w | w
      · refine ⟨0, .inl rfl, by omega, .inl (by rw [show i + 1 + 0 = i + 1 by omega]; exact w.2), ?_, ?_⟩
        · rw [eC]; unfold nk_Reader_readTag_31 ck
          rw [if_pos rfl, ha, if_pos (by omega), show i + 1 + 0 = i + 1 by omega]
        · rw [eY]; unfold nk_Y_readTag_18 ck
          rw [if_pos rfl, if_pos (by omega), show i + 1 + 0 = i + 1 by omega]
      · exact absurd w.2.1 y
  obtain ⟨z, hz1, hz2, hz3, eC, eY⟩ := hz
  generalize hq0 : i + 1 + z = q0 at *
  have hq0b : i + 1 ≤ q0 ∧ q0 ≤ i + 2 := by omega
  -- its name
  have fy79 : FY [79] m (yw m 79 0 0) := fun f hf => yw_nF (by simp only [List.mem_cons, List.not_mem_nil, or_false] at hf; exact hf)
  have s1 := scx_ge (p := tnC (m 75)) q0 (m 76 0)
  have s2 := scx_le (p := tnC (m 75)) (i := q0) (to := m 76 0) (by omega)
  have s3 : q0 < sc (tnC (m 75)) q0 (m 76 0) := by
    by_cases y : sc (tnC (m 75)) q0 (m 76 0) = q0
    · have := scx_at (p := tnC (m 75)) (i := q0) (to := m 76 0) (by omega)
      rw [y] at this
      exact absurd hz3 this
    · omega
  obtain ⟨⟨q1, m1⟩, en, n1', n2', n3', n4'⟩ := y_tagName (v1 := i) (v2 := z) (m := yw m 79 0 0) (i := q0) (by rw [fy79 76 (by decide)]; exact hL) (by rw [fy79 75 (by decide), fy79 76 (by decide)]; exact hg) yw_eq (by rw [fy79 76 (by decide)]; omega)
  simp only at n1' n2' n3' n4'
  rw [fy79 75 (by decide), fy79 76 (by decide)] at n1'
  rw [fy79 75 (by decide)] at n4'
  have fy1 : FY [78, 79] m m1 := fun f hf => by rw [n2' f hf, fy79 f (by simp only [List.mem_cons, List.not_mem_nil, or_false, not_or] at hf ⊢; exact hf.2)]
  have ecn := c_tagScan (v1 := i) (v2 := m 70 0) (v3 := z) (v4 := q0) hS.1 (i := q0) (by omega)
  rw [← n1'] at ecn s1 s2 s3
  have hwb : ∀ c ∈ smL (m 75) q0 q1, isBt c := smL_bt hg (by omega) s2
  have epk : N_Bytes_packSmall (n 8 0 8) q0 q1 n = some (pk (smL (m 75) q0 q1)) := cs_packSmall h1 s2 (by omega) (by omega) (fun j a b c => by
    have := hg j (by omega) (by omega); unfold isTx at this; unfold isBt; omega)
  generalize hww : smL (m 75) q0 q1 = w at *
  generalize hn0 : nw n 7 120 12 0 = n0
  generalize hm2 : yw (yw m1 80 0 0) 85 0 0 = m2
  have fy2 : FY [78, 79, 80, 85] m m2 := fun f hf => by
    simp only [List.mem_cons, List.not_mem_nil, or_false, not_or] at hf
    rw [← hm2, yw_nF (by omega), yw_nF (by omega), fy1 f (by simp only [List.mem_cons, List.not_mem_nil, or_false, not_or]; omega)]
  have e80 : m2 80 0 = 0 := by rw [← hm2, yw_nF (by decide), yw_eq]
  have e85 : m2 85 0 = 0 := by rw [← hm2, yw_eq]
  have e78 : m2 78 = m1 78 := by rw [← hm2, yw_nF (by decide), yw_nF (by decide)]
  have e79 : m2 79 = m1 79 := by rw [← hm2, yw_nF (by decide), yw_nF (by decide)]
  have nK0 : ∀ K, K ≠ 7 → n0 K = n K := fun K hK => by rw [← hn0]; exact nw_nK hK
  have hX0 : JX Z A B n0 m2 N o e p qs oc := by
    have : JX Z A B n0 m N o e p qs oc := hX.tn (fun K a _ => nK0 K a) (fun v hv => by rw [← hn0]; exact nw_ni hv) (fun v _ => by rw [nK0 18 (by decide)])
    exact this.y (fun f a b _ _ _ => fy2 f (by simp only [List.mem_cons, List.not_mem_nil, or_false, not_or]; omega)) (FYR.of fy2 (by decide))
  have hR0 : RdI m2 := ⟨by rw [e80]; omega, by rw [e85]; omega, fun a a0 a1 => by rw [e80] at a1; omega⟩
  have hF0 : JF n0 m2 := by
    unfold JF at *
    rw [nK0 8 (by decide), nK0 28 (by decide), nK0 29 (by decide), fy2 70 (by decide), fy2 71 (by decide), fy2 72 (by decide)]; exact hF
  have h70 : m 70 0 ≤ 60000 := by have := hC.2.2; omega
  have e70 : m2 70 0 = m 70 0 := by rw [fy2 70 (by decide)]
  have e76 : m2 76 = m 76 := fy2 76 (by decide)
  have e75 : m2 75 = m 75 := fy2 75 (by decide)
  have hnm2 : sg (m2 78) 0 (m2 79 0).toNat = w := by rw [e78, e79]; exact n4'
  have h79 : 0 ≤ m2 79 0 ∧ m2 79 0 ≤ 8 := by rw [e79, n3']; omega
  have eC2 : nk_Reader_readTag_51 i (m 70 0) z q0 n = (NL_Reader_readTag_122 i (m 70 0) z (pk w) q1 0 n0).bind (u2 fun z11 n12 => nk_Reader_readTag_199 i (m 70 0) z z11 (pk w) n12) := by
    unfold nk_Reader_readTag_51
    rw [ecn]
    show nk_Reader_readTag_98 i (m 70 0) z q0 q1 n = _
    unfold nk_Reader_readTag_98 nn
    rw [if_pos h3, epk, ← hn0]; rfl
  have eY2 : nk_Y_readTag_32 i z q0 m = (NL_Y_readTag_127 i z q1 1 m2).bind (u2 fun z9 m10 => if z9 < m10 76 0 then (N_Y_tagOf 78 0 (m10 79 0) m10).bind fun z20 => if z = 0 then (NL_Y_readTag_259 i z9 z20 0 m10).bind fun m24 => (N_Y_startTag i z20 m24).bind fun m28 => ck (z9 + 1) (some (z9 + 1, m28)) else (N_Y_endTag i z20 m10).bind fun m34 => ck (z9 + 1) (some (z9 + 1, m34)) else (N_Y_tellFault 1 i m10).bind fun m40 => some (m40 76 0, m40)) := by
    unfold nk_Y_readTag_32 st
    dsimp only
    rw [en]
    show nk_Y_readTag_114 i z q1 m1 = _
    unfold nk_Y_readTag_114 st
    dsimp only
    rw [hm2]
  rw [eC, eY, eC2, eY2]
  -- behind the loop: a tag that does not end
  have stop : ∀ n3 m3 mm : _, JX Z A B n3 mm N o e p qs oc → JFb n3 mm → mm 70 0 = m 70 0 → FY YFs mm m3 → n3 8 0 9 = m 76 0 → n3 10 = n 10 → m3 76 = m 76 → m3 69 = m 69 → wtS m3 = wtS m → ∃ n4 m4, (∀ zz, m 76 0 ≤ zz → nk_Reader_readTag_199 i (m 70 0) z zz (pk w) n3 = some n4) ∧ (N_Y_tellFault 1 i m3).bind (fun m40 => some (m40 76 0, m40)) = some (m 76 0, m4) ∧ JR Z A B n4 m4 N o e p qs oc ∧ n4 8 0 10 = m 76 0 ∧ JCn Z n4 m4 (m 76 0) ∧ m4 76 = m 76 := fun n3 m3 mm x1 x2 x3 x4 x5 x6 x7 x8 x9 => by
    have y1 := x1.ys x4
    have y2 : JFb n3 m3 := by
      unfold JFb at *
      rw [x4 70 (by decide), x4 71 (by decide), x4 72 (by decide)]; exact x2
    obtain ⟨n4, m4, t1, t2, t3, t4, t5, t6, t7⟩ := y1.told y2 (by rw [x4 70 (by decide), x3]; omega) (w := 1) (pl := i) (bf := m 70 0) (by rw [x4 70 (by decide), x3])
    refine ⟨nw n4 8 0 10 (m 76 0), m4, fun zz hzz => ?_, ?_, t3.at (m 76 0), nw_eq, ?_, by rw [t6 76 (by decide)]; exact x7⟩
    · unfold nk_Reader_readTag_199
      rw [x5, if_neg (by omega)]
      show (N_Reader_tell 1 i (nw n3 8 0 3 (m 70 0))).bind (fun n24 => st (nw n24 8 0 10 (n24 8 0 9)) fun n29 => some n29) = _
      rw [t1]
      show some (nw n4 8 0 10 (n4 8 0 9)) = _
      rw [t4 9 (by decide), x5]
    · rw [t2]
      show some (m4 76 0, m4) = _
      rw [t6 76 (by decide), x7]
    · have w1 := wtS_fy t6 (by decide)
      unfold JCn at hC ⊢
      rw [nw_nK (by decide), t5, x6, t6 76 (by decide), x7, t6 69 (by decide), x8, t7, x4 70 (by decide), x3]; omega
  rcases hz1 with hz0 | hz0
  · -- a start tag
    have hT0 : TInv Z A B n0 m2 N o e p qs oc := ⟨hX0, ⟨⟨by rw [e80, ← hn0, nw_eq], by rw [e80]; omega⟩, fun a a0 a1 => by rw [e80] at a1; omega⟩, ⟨by rw [e70]; exact hF.2.1, by rw [e70]; omega, hF0.2.2.2⟩, ⟨by rw [hF0.1, e85]; omega, by rw [e85]; omega, fun j a b => by rw [e85] at b; omega⟩, hR0⟩
    obtain ⟨zz, n3, m3, l1, l2, l3, l4, l5, l6, l7⟩ := tagLoop (v1 := i) (v2 := m 70 0) (v3 := z) (v4 := z) (v6 := pk w) (fun n m => TInv Z A B n m N o e p qs oc ∧ m 70 = m2 70) (fun n m h => ⟨h.1.1, h.1.2.2.2.2⟩) (fun n m i q b t z' h hi h85 hA hz => by
      obtain ⟨n', m', r1, r2, r3, r4, r5, r6, r7, r8⟩ := attr_start h.1 hi h85 hA hz
      rw [hz0]
      exact ⟨n', m', r1, r2, ⟨r3, by rw [r7 70 (by decide)]; exact h.2⟩, r4, r5, r6, r7, r8⟩) (m2 76 0 - q1).toNat q1 0 n0 m2 ⟨hT0, rfl⟩ (by omega) (by rw [e76]; omega) (by omega) (by rw [e85]; omega)
    rw [e76] at l2 l4
    rw [e75] at l4
    have l9 : n3 8 0 9 = m 76 0 := by rw [l5 9 (by decide), nK0 8 (by decide)]; exact h2
    have m376 : m3 76 = m 76 := by rw [l7 76 (by decide)]; exact e76
    rw [l1, l2]
    rcases l4 with ⟨k1, k2, ⟨k3, k5⟩, k4⟩ | ⟨k1, mm, ⟨k2, k5⟩, k3⟩
    · obtain ⟨g1, g2, g3, g4, g5⟩ := k3
      have u70 : m3 70 0 = m 70 0 := by rw [k5]; exact e70
      have etag : N_Y_tagOf 78 0 (m3 79 0) m3 = some (tgL w) := by
        have e79' : m3 79 0 = m2 79 0 := by rw [l7 79 (by decide)]
        rw [y_tagOf (f := 78) ⟨by decide, by omega, by show _ ≤ (8 : Int); omega, by omega⟩, l7 78 (by decide), l7 79 (by decide), hnm2]
      have h85 : m3 85 0 ≤ 2000 := by rw [e85] at k4; omega
      obtain ⟨m4, ed, d1, d2, d3⟩ := y_defer (v1 := i) (v3 := zz) (v5 := tgL w) g3 g4 h85
      have hJ4 : JR Z A B n3 m4 N o e p qs oc := (g1.y (fun f a b c d e => d1 f (by simp only [List.mem_cons, List.not_mem_nil, or_false, not_or]; omega)) (FYR.of d1 (by decide))).r d2
      have hD4 : TD n3 m4 := g2.y (fun f a b => d1 f (by simp only [List.mem_cons, List.not_mem_nil, or_false, not_or]; omega))
      have hnm4 : sg (m4 78) 0 (m4 79 0).toNat = w := by rw [d1 78 (by decide), d1 79 (by decide), l7 78 (by decide), l7 79 (by decide)]; exact hnm2
      have h794 : 0 ≤ m4 79 0 ∧ m4 79 0 ≤ 8 := by rw [d1 79 (by decide), l7 79 (by decide)]; exact h79
      have e69 : m4 69 = m 69 := by rw [d1 69 (by decide), l7 69 (by decide), fy2 69 (by decide)]
      have e10 : n3 10 = n 10 := by rw [l6, nK0 10 (by decide)]
      obtain ⟨n5, m5, N', o', e', p', qs', oc', r1, r2, r3, r4, r5, r6, r7, r8, r9⟩ := startTag_both (pl := i) hNT (hJ4.at (zz + 1)) (by
        unfold TD TD1 bt at *
        rw [nw_nK (by decide), nw_nK (by decide), nw_nK (by decide), nw_nK (by decide)]; exact hD4) hnm4 h794 hwb (by rw [nw_nK (by decide), e10, e69]; have := hC.1; have := hC.2.1; have := hX.2.2.2.2.2.2.1; omega) (by rw [d3, u70]; omega)
      refine ⟨n5, m5, zz + 1, N', o', e', p', qs', oc', ?_, ?_, r3, by rw [r4, nw_eq], by omega, by omega, ?_, ?_⟩
      · show nk_Reader_readTag_199 i (m 70 0) z zz (pk w) n3 = _
        unfold nk_Reader_readTag_199 ck st
        dsimp only
        rw [l9, if_pos k1, if_pos (by omega), if_pos hz0, r1]; rfl
      · show (if min zz (m 76 0) < m3 76 0 then _ else _) = _
        rw [m376, show min zz (m 76 0) = zz by omega, if_pos k1, etag]
        simp only [Option.bind_some]
        rw [if_pos hz0, ed]
        simp only [Option.bind_some]
        rw [r2]
        simp only [Option.bind_some]
        unfold ck
        rw [if_pos (by omega)]
      · have q1' : m5 76 = m 76 := by rw [r8, d1 76 (by decide)]; exact m376
        rw [nw_nK (by decide), e10] at r5
        rw [e69] at r6
        have w1 : wtS m4 = wtS m := by rw [wtS_fy d1 (by decide), wtS_fy l7 (by decide), wtS_fy fy2 (by decide)]
        have w2 : rdW m4 = rdW m3 := rdW_same (d1 80 (by decide)) (d1 82 (by decide)) (d1 84 (by decide))
        have w3 : rdW m2 = 0 := by unfold rdW rd1; rw [e80, if_neg (show ¬ (0 : Int) < 0 by decide), if_neg (show ¬ (1 : Int) < 0 by decide), if_neg (show ¬ (2 : Int) < 0 by decide), if_neg (show ¬ (3 : Int) < 0 by decide)]; rfl
        have w4 : m4 79 0 = min (q1 - q0) 8 := by rw [d1 79 (by decide), l7 79 (by decide), e79]; exact n3'
        rw [w1, w2, w4] at r9
        unfold JCn at hC ⊢
        rw [q1']
        rw [e85] at k4
        omega
      · rw [r8, d1 76 (by decide)]; exact m376
    · obtain ⟨g1, g2, g3, g4, g5⟩ := k2
      obtain ⟨n4, m4, w1, w2, w3, w4, w5, w6⟩ := stop n3 m3 mm g1 g3 (by rw [k5]; exact e70) k3 l9 (by rw [l6, nK0 10 (by decide)]) m376 (by rw [l7 69 (by decide), fy2 69 (by decide)]) (by rw [wtS_fy l7 (by decide), wtS_fy fy2 (by decide)])
      refine ⟨n4, m4, m 76 0, N, o, e, p, qs, oc, w1 zz k1, ?_, w3, w4, hi.2, Int.le_refl _, w5, w6⟩
      rw [← w2]
      show (if min zz (m 76 0) < m3 76 0 then _ else _) = _
      rw [m376, if_neg (by omega)]
  · -- an end tag
    have hE0 : EInv Z A B n0 m2 N o e p qs oc := ⟨hX0, hF0, hR0⟩
    obtain ⟨zz, n3, m3, l1, l2, l3, l4, l5, l6, l7⟩ := tagLoop (v1 := i) (v2 := m 70 0) (v3 := z) (v4 := z) (v6 := pk w) (fun n m => EInv Z A B n m N o e p qs oc ∧ m 70 = m2 70) (fun n m h => ⟨h.1.1, h.1.2.2⟩) (fun n m i q b t z' h hi h85 hA hz => by
      obtain ⟨n', m', r1, r2, r3, r4, r5, r6, r7, r8⟩ := attr_end h.1 hi h85 hA hz
      rw [hz0]
      exact ⟨n', m', r1, r2, ⟨r3, by rw [r7 70 (by decide)]; exact h.2⟩, r4, r5, r6, r7, r8⟩) (m2 76 0 - q1).toNat q1 0 n0 m2 ⟨hE0, rfl⟩ (by omega) (by rw [e76]; omega) (by omega) (by rw [e85]; omega)
    rw [e76] at l2 l4
    rw [e75] at l4
    have l9 : n3 8 0 9 = m 76 0 := by rw [l5 9 (by decide), nK0 8 (by decide)]; exact h2
    have m376 : m3 76 = m 76 := by rw [l7 76 (by decide)]; exact e76
    rw [l1, l2]
    rcases l4 with ⟨k1, k2, ⟨k3, k5⟩, k4⟩ | ⟨k1, mm, ⟨k2, k5⟩, k3⟩
    · obtain ⟨g1, g2, g3⟩ := k3
      have u70 : m3 70 0 = m 70 0 := by rw [k5]; exact e70
      have etag : N_Y_tagOf 78 0 (m3 79 0) m3 = some (tgL w) := by
        have e79' : m3 79 0 = m2 79 0 := by rw [l7 79 (by decide)]
        rw [y_tagOf (f := 78) ⟨by decide, by omega, by show _ ≤ (8 : Int); omega, by omega⟩, l7 78 (by decide), l7 79 (by decide), hnm2]
      have hJ4 : JR Z A B n3 m3 N o e p qs oc := g1.r g2
      have hnm4 : sg (m3 78) 0 (m3 79 0).toNat = w := by rw [l7 78 (by decide), l7 79 (by decide)]; exact hnm2
      have h794 : 0 ≤ m3 79 0 ∧ m3 79 0 ≤ 8 := by rw [l7 79 (by decide)]; exact h79
      have e69 : m3 69 = m 69 := by rw [l7 69 (by decide), fy2 69 (by decide)]
      have e10 : n3 10 = n 10 := by rw [l6, nK0 10 (by decide)]
      obtain ⟨n5, m5, oc', r1, r2, r3, r4, r5, r6, r7⟩ := endTag_both (i := i) (hJ4.at (zz + 1)) hnm4 h794 hwb (by rw [u70]; omega)
      refine ⟨n5, m5, zz + 1, N, o, e, p, qs, oc', ?_, ?_, r3, by rw [r5, nw_eq], by omega, by omega, ?_, ?_⟩
      · show nk_Reader_readTag_199 i (m 70 0) z zz (pk w) n3 = _
        unfold nk_Reader_readTag_199 ck st
        dsimp only
        rw [l9, if_pos k1, if_pos (by omega), if_neg (by omega), r1]; rfl
      · show (if min zz (m 76 0) < m3 76 0 then _ else _) = _
        rw [m376, show min zz (m 76 0) = zz by omega, if_pos k1, etag]
        simp only [Option.bind_some]
        rw [if_neg (by omega), r2]
        simp only [Option.bind_some]
        unfold ck
        rw [if_pos (by omega)]
      · have q1' : m5 76 = m 76 := by rw [r7 76 (by decide)]; exact m376
        rw [nw_nK (by decide), e10] at r6
        have w1 : wtS m5 = wtS m := by rw [wtS_fy r7 (by decide), wtS_fy l7 (by decide), wtS_fy fy2 (by decide)]
        unfold JCn at hC ⊢
        rw [q1', r6, r7 69 (by decide), e69]
        omega
      · rw [r7 76 (by decide)]; exact m376
    · obtain ⟨g1, g2, g3⟩ := k2
      obtain ⟨n4, m4, w1, w2, w3, w4, w5, w6⟩ := stop n3 m3 mm g1 ⟨g2.2.1, by rw [k5, e70]; omega, g2.2.2.2⟩ (by rw [k5]; exact e70) k3 l9 (by rw [l6, nK0 10 (by decide)]) m376 (by rw [l7 69 (by decide), fy2 69 (by decide)]) (by rw [wtS_fy l7 (by decide), wtS_fy fy2 (by decide)])
      refine ⟨n4, m4, m 76 0, N, o, e, p, qs, oc, w1 zz k1, ?_, w3, w4, hi.2, Int.le_refl _, w5, w6⟩
      rw [← w2]
      show (if min zz (m 76 0) < m3 76 0 then _ else _) = _
      rw [m376, if_neg (by omega)]
end I5
