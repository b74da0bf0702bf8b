/-! THE STORE, in both -/
section M2
variable {n n' : NS} {m m' : YS} {A B N k v d fr to L i v1 v2 : Int} {g : Int → Int} {s w x q mk : List Int} {ss : List (List Int)} {As : Int → Prop}
theorem nameAll (hq : fr ≤ to) : (nmE g fr to ≠ fr ∧ nmE g fr to = to) ↔ (fr < to ∧ nmC g fr to = to) := by
  constructor
  · rintro ⟨h1, h2⟩
    unfold nmE at h1 h2
    by_cases hsm : fr < to ∧ isSm (g fr)
    · rw [if_pos hsm] at h1 h2
      by_cases h8 : 8 < sc (fun j => isNm (g j)) fr to - fr
      · rw [if_pos h8] at h1; exact absurd rfl h1
      · rw [if_neg h8] at h1 h2
        have hn := scx_scn (p := fun j => isNm (g j)) fr to
        exact ⟨hsm.1, nmC_all hsm.1 (by omega) hsm.2 (fun j a b => hn.2.2.1 j a (by omega))⟩
    · rw [if_neg hsm] at h1; exact absurd rfl h1
  · rintro ⟨h1, h2⟩
    have := nmC_nmE (g := g) (k := fr) (to := to) (A := to) h1 (Int.le_refl _) h2 (fun y => by omega)
    exact ⟨by omega, this⟩
theorem y_stored (h : TRs 26 175 176 177 178 n m (m 174 0)) (hR : RA m 1 s ss q mk) (hW : WFA s ss q mk) (hf : 0 ≤ v1 ∧ v1 + v2 ≤ 2000 ∧ v2 = (w.length : Int)) (hw : sg (m 159) v1 w.length = w) (hw8 : okN w) : N_Y_stored v1 v2 m = some (if tbF 175 176 177 m (m 174 0) s w < m 174 0 then tbF 175 176 177 m (m 174 0) s w else -1) := by
  have hs := hW.nm
  have hsite : sg (m 6) 152 s.length = s := hR.site
  have c1 := hs.2.1
  have c2 := hw8.2.1
  have hk := h.2.1
  apply eq_of_ev
  unfold N_Y_stored
  rw [y_siteEnd hR hW ⟨by decide, by decide⟩]
  simp only [Option.bind_some]
  refine ev_ck (by omega) ?_
  rw [show 2 + (s.length : Int) - 2 = (s.length : Int) by omega]
  refine ev_bs (P := fun r => r = tbF 175 176 177 m (m 174 0) s w ∧ r < m 174 0) (R := fun _ => ¬ tbF 175 176 177 m (m 174 0) s w < m 174 0) ?_ (fun r hr => ev_ok (by rw [if_pos (by rw [← hr.1]; exact hr.2)]; exact hr.1)) (fun r hr => ev_ok (by rw [if_neg hr]))
  unfold NL_Y_stored_11
  refine ev_it (fun j => 0 ≤ j ∧ j ≤ m 174 0 ∧ ∀ c, 0 ≤ c → c < j → ¬ (tbS 175 176 m c = s ∧ tbM 175 177 m c = w)) (fun j => m 174 0 - j) (fun j hj => ?_) ⟨Int.le_refl _, h.1, fun c a b => by omega⟩
  obtain ⟨g1, g2, g3⟩ := hj
  show ev (nb_Y_stored_11 v1 v2 (s.length : Int) j m) _
  unfold nb_Y_stored_11
  refine ev_if (fun hlt => ?_) (fun hge => ev_inr (show ¬ tbF 175 176 177 m (m 174 0) s w < m 174 0 from fun hx => ?_))
  · obtain ⟨⟨p1, p2, p3⟩, ⟨q1, q2, q3⟩, _⟩ := h.2.2 j g1 hlt
    have l1 : ((tbS 175 176 m j).length : Int) = m 176 j := sg_lenI p1
    have l2 : ((tbM 175 177 m j).length : Int) = m 177 j := sg_lenI p2
    have next : ¬ (tbS 175 176 m j = s ∧ tbM 175 177 m j = w) → ev (ck (j + 1) (some (Sum.inl (j + 1)))) (lp (fun j => 0 ≤ j ∧ j ≤ m 174 0 ∧ ∀ c, 0 ≤ c → c < j → ¬ (tbS 175 176 m c = s ∧ tbM 175 177 m c = w)) (fun j => m 174 0 - j) j (sp (fun r => r = tbF 175 176 177 m (m 174 0) s w ∧ r < m 174 0) (fun _ : Unit => ¬ tbF 175 176 177 m (m 174 0) s w < m 174 0))) := fun hne => by
      refine ev_ck (by omega) (ev_inl ⟨⟨by omega, by omega, fun c a b => ?_⟩, by omega, by omega⟩)
      by_cases z : c = j
      · rw [z]; exact hne
      · exact g3 c a (by omega)
    refine ev_ix (by omega) (ev_if (fun he => ?_) (fun hne => next (fun z => hne (by rw [← l1, z.1]))))
    refine ev_ck (by omega) (ev_bz (ys_same (f := 175) (f2 := 6) (i := 24 * j) (j := 152) (k := (s.length : Int)) (by omega) (by omega) (by show _ ≤ (480 : Int); omega) (by show _ ≤ (9900 : Int); omega) (by omega) (by omega)) (fun hp => ?_) (fun hp => ?_))
    · rw [if_neg (by decide)]
      have hp1 : tbS 175 176 m j = s := by unfold tbS; rw [he, hp, Int.toNat_natCast]; exact hsite
      refine ev_ix (by omega) (ev_if (fun he2 => ?_) (fun hne => next (fun z => hne (by rw [← l2, z.2, hf.2.2]))))
      refine ev_ck (by omega) (ev_ck (by omega) (ev_bz (ys_same (f := 175) (f2 := 159) (i := 24 * j + 8) (j := v1) (k := v2) (by omega) (by omega) (by show _ ≤ (480 : Int); omega) (by show _ ≤ (2000 : Int); omega) (by omega) (by omega)) (fun hp2 => ?_) (fun hp2 => ?_)))
      · rw [if_neg (by decide)]
        have hp3 : tbM 175 177 m j = w := by unfold tbM; rw [he2, hp2, hf.2.2, Int.toNat_natCast]; exact hw
        have : j = tbF 175 176 177 m (m 174 0) s w := scx_eq ⟨g1, .inl g2, g3, fun _ z => z ⟨hp1, hp3⟩⟩
        exact ev_inr ⟨this, hlt⟩
      · rw [if_pos rfl]
        refine next (fun z => hp2 ?_)
        have := z.2; unfold tbM at this; rw [he2] at this
        rw [this, hf.2.2, Int.toNat_natCast]; exact hw.symm
    · rw [if_pos rfl]
      refine next (fun z => hp ?_)
      rw [Int.toNat_natCast, hsite]
      have := z.1; unfold tbS at this; rw [he, Int.toNat_natCast] at this; exact this
  · have := scx_at (p := fun c => ¬ (tbS 175 176 m c = s ∧ tbM 175 177 m c = w)) hx
    exact this (g3 _ (scx_ge _ _) (by unfold tbF at hx; omega))
/-- a NAME is put into THE STORE -/
theorem put_both (h : TRs 26 175 176 177 178 n m (m 174 0)) (h8 : n 6 0 8 = m 174 0) (hA : AdS n As) (h2 : As 1582) (hC : CA n 1582 s ss q mk) (hR : RA m 1 s ss q mk) (hW : WFA s ss q mk)
    (hf : 0 ≤ fr ∧ fr < k ∧ k + 1 < to ∧ to ≤ 2000) (hk : m 159 k = 32) (hw : sg (m 159) fr (k - fr).toNat = w) (hw8 : okN w) (hx : sg (m 159) (k + 1) (to - (k + 1)).toNat = x) (hx8 : okN x) (hE : nmE (m 159) (k + 1) to = to) :
    ∃ n' m', N_Net_putStore (pk w) (pk x) n = some n' ∧ N_Y_putStep fr k to m = some (1, m') ∧ TRs 26 175 176 177 178 n' m' (m' 174 0) ∧ n' 6 0 8 = m' 174 0 ∧ (∀ K, K ≠ 26 → K ≠ 6 → n' K = n K) ∧ (∀ s, s ≠ 8 → n' 6 0 s = n 6 0 s) ∧ FY [174, 175, 176, 177, 178] m m' := by
  have hs := hW.nm
  have hsite : sg (m 6) 152 s.length = s := hR.site
  have c1 := hs.2.1
  have c2 := hw8.2.1
  have c3 := hx8.2.1
  have hkk := h.2.1
  have hb := tbF_b (D := 175) (S := 176) (M := 177) (m := m) (s := s) (w := w) h.1
  have hlw : (w.length : Int) = k - fr := by rw [← hw, sg_len]; omega
  have hlx : (x.length : Int) = to - (k + 1) := by rw [← hx, sg_len]; omega
  have hAC := (hA 1582 h2).1
  have eC : N_Net_putStore (pk w) (pk x) n = some (if tbF 175 176 177 m (m 174 0) s w = 20 then nw n 6 0 8 (m 174 0) else nw (n3w 26 n (tbF 175 176 177 m (m 174 0) s w) (pk s) (pk w) (pk x)) 6 0 8 (max (m 174 0) (tbF 175 176 177 m (m 174 0) s w + 1))) := by
    unfold N_Net_putStore ty
    rw [if_pos hAC.2.1, h8, hC.1, c_putRow h hs hw8]
    split <;> rfl
  have eS := y_stored (v1 := fr) (v2 := k - fr) h hR hW ⟨hf.1, by omega, by omega⟩ (by rw [show w.length = (k - fr).toNat by omega]; exact hw) hw8
  generalize hi : tbF 175 176 177 m (m 174 0) s w = i at *
  have eY0 : N_Y_putStep fr k to m = (if (if i < m 174 0 then i else -1) = -1 then (if m 174 0 = 20 then some (1, m) else ck (m 174 0 + 1) (st (yw m 174 0 (m 174 0 + 1)) fun m30 => (N_Y_siteEnd 1 m30).bind fun z35 => ck (z35 - 2) (ix (m 174 0) 20 (st (yw m30 176 (m 174 0) (z35 - 2)) fun m40 => ck (k - fr) (ix (m 174 0) 20 (st (yw m40 177 (m 174 0) (k - fr)) fun m46 => (NL_Y_putStep_117 fr k to (m 174 0) 0 m46).bind fun m49 => (NL_Y_putStep_162 fr k to (m 174 0) 0 m49).bind fun m52 => nk_Y_putStep_205 k to (m 174 0) m52)))))) else nk_Y_putStep_205 k to (if i < m 174 0 then i else -1) m) := by
    unfold N_Y_putStep ck ix
    rw [if_neg (show ¬ k = to by omega), if_pos (show 0 ≤ k ∧ k < 2000 by omega), if_pos hk, if_pos (show inR (k + 1) by omega), ys_nameEnd (f := 159) (by show _ ≤ (2000 : Int); omega) (by omega) (by omega) (by omega), hE]
    simp only [Option.bind_some]
    rw [if_pos (show inR (k + 1) by omega), if_neg (show ¬ to = k + 1 by omega), if_pos trivial, if_pos (show inR (k - fr) by omega), eS]
    rfl
  -- the value
  have val : ∀ mx i, 0 ≤ i ∧ i < 20 → ∃ m', nk_Y_putStep_205 k to i mx = some (1, m') ∧ FY [175, 178] mx m' ∧ m' 178 i = (x.length : Int) ∧ (∀ c, c ≠ i → m' 178 c = mx 178 c) ∧ (∀ j, 0 ≤ j → j < (x.length : Int) → m' 175 (24 * i + 16 + j) = mx 159 (k + 1 + j)) ∧ ∀ j, ¬ (24 * i + 16 ≤ j ∧ j < 24 * i + 24) → m' 175 j = mx 175 j := fun mx i hi => by
    generalize hm1 : yw mx 178 i (to - k - 1) = m1
    have f1 : FY [178] mx m1 := fun f hf => by rw [← hm1]; exact yw_nF (by simp only [List.mem_cons, List.not_mem_nil, or_false] at hf; exact hf)
    have e178 : m1 178 i = (x.length : Int) := by rw [← hm1, yw_eq]; omega
    obtain ⟨m2, e2, y1, y2, y3⟩ : ev (NL_Y_putStep_220 k i 0 m1) (fun m' => FY [175] m1 m' ∧ (∀ j, 0 ≤ j → j < (x.length : Int) → m' 175 (24 * i + 16 + j) = m1 159 (k + 1 + j)) ∧ ∀ j, ¬ (24 * i + 16 ≤ j ∧ j < 24 * i + 16 + (x.length : Int)) → m' 175 j = m1 175 j) := by
      unfold NL_Y_putStep_220
      refine y_copy (F := 175) (G := 159) (K := (x.length : Int)) (a := 24 * i + 16) (b := k + 1) (by decide) (by omega) (fun t m9 f9 t0 t1 => ?_) (fun m9 f9 => ?_)
      · show nb_Y_putStep_220 k i t m9 = _
        unfold nb_Y_putStep_220 ck ix st
        dsimp only
        rw [f9 178 (by decide), e178, if_pos hi, if_pos t1, if_pos (by omega), if_pos (by omega), if_pos (by omega), if_pos (by omega), if_pos (by omega), if_pos (by omega), if_pos (by omega), if_pos (by omega)]
      · show nb_Y_putStep_220 k i (x.length : Int) m9 = _
        unfold nb_Y_putStep_220 ix
        rw [f9 178 (by decide), e178, if_pos hi, if_neg (by omega)]
    refine ⟨m2, ?_, fun f hf => ?_, by rw [y1 178 (by decide)]; exact e178, fun c hc => by rw [y1 178 (by decide), ← hm1, yw_ni hc], fun j a b => by rw [y2 j a b, f1 159 (by decide)], fun j hj => by rw [y3 j (by omega), f1 175 (by decide)]⟩
    · unfold nk_Y_putStep_205 ck ix st
      dsimp only
      rw [if_pos (by omega), if_pos (by omega), if_pos hi, hm1, e2]; rfl
    · simp only [List.mem_cons, List.not_mem_nil, or_false, not_or] at hf
      rw [y1 f (by simp only [List.mem_cons, List.not_mem_nil, or_false]; exact hf.1), f1 f (by simp only [List.mem_cons, List.not_mem_nil, or_false]; exact hf.2)]
  have xl : ∀ m', (∀ j, 0 ≤ j → j < (x.length : Int) → m' 175 (24 * i + 16 + j) = m 159 (k + 1 + j)) → m' 178 i = (x.length : Int) → tbV 175 178 m' i = x := fun m' a b => by
    unfold tbV
    rw [b, Int.toNat_natCast]
    have hx' : sg (m 159) (k + 1) x.length = x := by rw [show x.length = (to - (k + 1)).toNat by omega]; exact hx
    exact Eq.trans (sg_cg _ _ _ (fun y hy => a y (by omega) (by omega))) hx'
  by_cases hlt : i < m 174 0
  · rw [if_pos hlt, if_neg (show ¬ i = -1 by omega)] at eY0
    rw [if_neg (by omega)] at eC
    obtain ⟨m', ev, y1, y2, y3, y4, y5⟩ := val m i ⟨hb.1, by omega⟩
    have e174 : m' 174 0 = m 174 0 := by rw [y1 174 (by decide)]
    have hmax : max (m 174 0) (i + 1) = m 174 0 := by omega
    have hat : tbS 175 176 m i = s ∧ tbM 175 177 m i = w := by
      have := scx_at (p := fun c => ¬ (tbS 175 176 m c = s ∧ tbM 175 177 m c = w)) (i := 0) (to := m 174 0) (by unfold tbF at hi; rw [hi]; exact hlt)
      unfold tbF at hi
      rw [hi] at this
      exact Classical.byContradiction (fun z => this z)
    obtain ⟨⟨p1, p2, p3⟩, ⟨q1, q2, q3⟩, _⟩ := h.2.2 i hb.1 hlt
    have lS : m 176 i ≤ 8 := by have := q1.2.1; unfold tbS at this; rw [sg_len] at this; omega
    have lM : m 177 i ≤ 8 := by have := q2.2.1; unfold tbM at this; rw [sg_len] at this; omega
    refine ⟨_, m', eC, by rw [eY0]; exact ev, ?_, by rw [nw_eq, e174, hmax], fun K a b => by rw [nw_nK b, n3w_K a], fun s hs => by rw [nw_ns hs, n3w_K (by decide)], y1.sub (by decide)⟩
    rw [e174]
    refine h.put (i := i) (s := s) (w := w) (v := x) ⟨hb.1, by omega, by omega⟩ (by omega) ⟨⟨by rw [y1 176 (by decide)]; exact p1, by rw [y1 177 (by decide)]; exact p2, by rw [y2]; omega⟩, ?_, ?_, xl m' y4 y2⟩ hs hw8 hx8 (fun c hc => ⟨by rw [y1 176 (by decide)], by rw [y1 177 (by decide)], y3 c hc⟩) (fun j hj => y5 j (by omega)) ?_
    · rw [← hat.1]; unfold tbS; rw [y1 176 (by decide)]
      exact sg_cg _ _ _ (fun y hy => y5 _ (by omega))
    · rw [← hat.2]; unfold tbM; rw [y1 177 (by decide)]
      exact sg_cg _ _ _ (fun y hy => y5 _ (by omega))
    · rw [nw_nK (by decide)]; exact n3w_v
  · have hi2 : i = m 174 0 := by omega
    rw [if_neg hlt, if_pos rfl] at eY0
    by_cases h20 : m 174 0 = 20
    · rw [if_pos h20] at eY0
      rw [if_pos (by omega)] at eC
      refine ⟨_, m, eC, eY0, h.cg (by rw [nw_nK (by decide)]) rfl rfl rfl rfl, nw_eq, fun K _ b => nw_nK b, fun s hs => nw_ns hs, fun _ _ => rfl⟩
    · rw [if_neg h20] at eY0
      rw [if_neg (by omega)] at eC
      have hi20 : 0 ≤ m 174 0 ∧ m 174 0 < 20 := ⟨h.1, by omega⟩
      generalize hma : yw m 174 0 (m 174 0 + 1) = ma at eY0
      have fa : FY [174] m ma := fun f hf => by rw [← hma]; exact yw_nF (by simp only [List.mem_cons, List.not_mem_nil, or_false] at hf; exact hf)
      have hRa := hR.rw hW (RwE.of (fa 6 (by decide)) (fa 7 (by decide)) (fa 8 (by decide)))
      generalize hmb : yw ma 176 (m 174 0) (s.length : Int) = mb
      have fb : FY [176] ma mb := fun f hf => by rw [← hmb]; exact yw_nF (by simp only [List.mem_cons, List.not_mem_nil, or_false] at hf; exact hf)
      generalize hmc : yw mb 177 (m 174 0) (k - fr) = mc
      have fc : FY [177] mb mc := fun f hf => by rw [← hmc]; exact yw_nF (by simp only [List.mem_cons, List.not_mem_nil, or_false] at hf; exact hf)
      have gc : ∀ f, f ∉ [174, 176, 177] → mc f = m f := fun f hf => by
        simp only [List.mem_cons, List.not_mem_nil, or_false, not_or] at hf
        rw [fc f (by simp only [List.mem_cons, List.not_mem_nil, or_false]; exact hf.2.2), fb f (by simp only [List.mem_cons, List.not_mem_nil, or_false]; exact hf.2.1), fa f (by simp only [List.mem_cons, List.not_mem_nil, or_false]; exact hf.1)]
      have e176 : mc 176 (m 174 0) = (s.length : Int) := by rw [fc 176 (by decide), ← hmb, yw_eq]
      have e177 : mc 177 (m 174 0) = k - fr := by rw [← hmc, yw_eq]
      obtain ⟨md, ed, d1, d2, d3⟩ : ev (NL_Y_putStep_117 fr k to (m 174 0) 0 mc) (fun m' => FY [175] mc m' ∧ (∀ j, 0 ≤ j → j < (s.length : Int) → m' 175 (24 * m 174 0 + j) = mc 6 (152 + j)) ∧ ∀ j, ¬ (24 * m 174 0 ≤ j ∧ j < 24 * m 174 0 + (s.length : Int)) → m' 175 j = mc 175 j) := by
        unfold NL_Y_putStep_117
        refine y_copy (F := 175) (G := 6) (K := (s.length : Int)) (a := 24 * m 174 0) (b := 152) (by decide) (by omega) (fun t m9 f9 t0 t1 => ?_) (fun m9 f9 => ?_)
        · show nb_Y_putStep_117 fr k to (m 174 0) t m9 = _
          unfold nb_Y_putStep_117 ck ix st
          dsimp only
          rw [f9 176 (by decide), e176, if_pos hi20, if_pos t1, if_pos (by omega), if_pos (by omega), if_pos (by omega), if_pos (by omega), if_pos (by omega), if_pos (by omega)]
        · show nb_Y_putStep_117 fr k to (m 174 0) (s.length : Int) m9 = _
          unfold nb_Y_putStep_117 ix
          rw [f9 176 (by decide), e176, if_pos hi20, if_neg (by omega)]
      obtain ⟨me, ee, e1, e2, e3⟩ : ev (NL_Y_putStep_162 fr k to (m 174 0) 0 md) (fun m' => FY [175] md m' ∧ (∀ j, 0 ≤ j → j < k - fr → m' 175 (24 * m 174 0 + 8 + j) = md 159 (fr + j)) ∧ ∀ j, ¬ (24 * m 174 0 + 8 ≤ j ∧ j < 24 * m 174 0 + 8 + (k - fr)) → m' 175 j = md 175 j) := by
        unfold NL_Y_putStep_162
        refine y_copy (F := 175) (G := 159) (K := k - fr) (a := 24 * m 174 0 + 8) (b := fr) (by decide) (by omega) (fun t m9 f9 t0 t1 => ?_) (fun m9 f9 => ?_)
        · show nb_Y_putStep_162 fr k to (m 174 0) t m9 = _
          unfold nb_Y_putStep_162 ck ix st
          dsimp only
          rw [f9 177 (by decide), d1 177 (by decide), e177, if_pos hi20, if_pos t1, if_pos (by omega), if_pos (by omega), if_pos (by omega), if_pos (by omega), if_pos (by omega), if_pos (by omega), if_pos (by omega)]
        · show nb_Y_putStep_162 fr k to (m 174 0) (k - fr) m9 = _
          unfold nb_Y_putStep_162 ix
          rw [f9 177 (by decide), d1 177 (by decide), e177, if_pos hi20, if_neg (by omega)]
      obtain ⟨m', ev, y1, y2, y3, y4, y5⟩ := val me (m 174 0) hi20
      have g' : ∀ f, f ∉ [174, 175, 176, 177, 178] → m' f = m f := fun f hf => by
        simp only [List.mem_cons, List.not_mem_nil, or_false, not_or] at hf
        rw [y1 f (by simp only [List.mem_cons, List.not_mem_nil, or_false, not_or]; omega), e1 f (by simp only [List.mem_cons, List.not_mem_nil, or_false]; omega), d1 f (by simp only [List.mem_cons, List.not_mem_nil, or_false]; omega), gc f (by simp only [List.mem_cons, List.not_mem_nil, or_false, not_or]; omega)]
      have s176 : ∀ c, m' 176 c = if c = m 174 0 then (s.length : Int) else m 176 c := fun c => by
        rw [y1 176 (by decide), e1 176 (by decide), d1 176 (by decide), fc 176 (by decide), ← hmb]
        split
        · next y => rw [y, yw_eq]
        · next y => rw [yw_ni y, fa 176 (by decide)]
      have s177 : ∀ c, m' 177 c = if c = m 174 0 then k - fr else m 177 c := fun c => by
        rw [y1 177 (by decide), e1 177 (by decide), d1 177 (by decide), ← hmc]
        split
        · next y => rw [y, yw_eq]
        · next y => rw [yw_ni y, fb 177 (by decide), fa 177 (by decide)]
      have e174 : m' 174 0 = m 174 0 + 1 := by rw [y1 174 (by decide), e1 174 (by decide), d1 174 (by decide), fc 174 (by decide), fb 174 (by decide), ← hma, yw_eq]
      have s178 : ∀ c, c ≠ m 174 0 → m' 178 c = m 178 c := fun c hc => by rw [y3 c hc, e1 178 (by decide), d1 178 (by decide), gc 178 (by decide)]
      refine ⟨_, m', eC, ?_, ?_, by rw [nw_eq, e174]; omega, fun K a b => by rw [nw_nK b, n3w_K a], fun s hs => by rw [nw_ns hs, n3w_K (by decide)], fun f hf => g' f hf⟩
      · rw [eY0]
        unfold ck st ix
        dsimp only
        rw [if_pos (by omega), y_siteEnd hRa hW ⟨by decide, by decide⟩]
        simp only [Option.bind_some]
        rw [if_pos (by omega), if_pos hi20, show 2 + (s.length : Int) - 2 = (s.length : Int) by omega, hmb, if_pos (by omega), hmc, ed]
        simp only [Option.bind_some]
        rw [ee, if_pos hi20]
        exact ev
      · rw [e174]
        rw [hi2] at eC xl ⊢
        refine h.put (i := m 174 0) (s := s) (w := w) (v := x) ⟨h.1, Int.le_refl _, hi20.2⟩ (by omega) ⟨⟨by rw [s176, if_pos rfl]; omega, by rw [s177, if_pos rfl]; omega, by rw [y2]; omega⟩, ?_, ?_, xl m' (fun j a b => by rw [y4 j a b, e1 159 (by decide), d1 159 (by decide), gc 159 (by decide)]) y2⟩ hs hw8 hx8 (fun c hc => ⟨by rw [s176, if_neg hc], by rw [s177, if_neg hc], s178 c hc⟩) (fun j hj => by rw [y5 j (by omega), e3 j (by omega), d3 j (by omega), gc 175 (by decide)]) ?_
        · unfold tbS
          rw [s176, if_pos rfl, Int.toNat_natCast]
          refine Eq.trans (sg_cg (h := m 6) _ _ 152 (fun y hy => ?_)) hsite
          rw [y5 _ (by omega), e3 _ (by omega), d2 y (by omega) (by omega), gc 6 (by decide)]
        · unfold tbM
          rw [s177, if_pos rfl]
          refine Eq.trans (sg_cg (h := m 159) _ _ fr (fun y hy => ?_)) hw
          rw [y5 _ (by omega), e2 y (by omega) (by omega), d1 159 (by decide), gc 159 (by decide)]
        · rw [nw_nK (by decide)]; exact n3w_v
end M2
