/-! THE REFERENCE reads an address: the call -/
theorem nmE_in {g : Int → Int} {k to : Int} (h : k ≤ to) (hz : nmE g k to ≠ k) : k < to ∧ isSm (g k) ∧ (∀ j, k ≤ j → j < nmE g k to → isNm (g j)) ∧ (nmE g k to < to → ¬ isNm (g (nmE g k to))) := by
  have q3 : ∀ j, k ≤ j → j < sc (fun j => isNm (g j)) k to → isNm (g j) := fun j x y => scx_in (p := fun j => isNm (g j)) x y
  have q4 : sc (fun j => isNm (g j)) k to < to → ¬ isNm (g (sc (fun j => isNm (g j)) k to)) := fun z => scx_at (p := fun j => isNm (g j)) z
  unfold nmE at hz ⊢
  generalize sc (fun j => isNm (g j)) k to = S at *
  by_cases z : k < to ∧ isSm (g k)
  · rw [if_pos z] at hz ⊢
    by_cases y : 8 < S - k
    · rw [if_pos y] at hz; exact absurd rfl hz
    · rw [if_neg y]; exact ⟨z.1, z.2, q3, q4⟩
  · rw [if_neg z] at hz; exact absurd rfl hz
theorem nmC_nmE {g : Int → Int} {k to A : Int} (h1 : k < A) (h2 : A ≤ to) (hA : nmC g k A = A) (hn : A < to → ¬ isNm (g A)) : nmE g k to = A := by
  unfold nmC at hA
  by_cases z : k < A ∧ isSm (g k)
  · rw [if_pos z] at hA
    have q2 := scx_le (p := fun j => isNm (g j)) (i := k) (to := A) (by omega)
    have e : sc (fun j => isNm (g j)) k A = A := by omega
    have hs : A = sc (fun j => isNm (g j)) k to := scx_eq ⟨by omega, .inl h2, fun j x y => scx_in (p := fun j => isNm (g j)) (i := k) (to := A) x (by omega), hn⟩
    unfold nmE
    rw [if_pos ⟨by omega, z.2⟩, ← hs, if_neg (by omega)]
  · rw [if_neg z] at hA; omega
theorem nmC_all {g : Int → Int} {k A : Int} (h1 : k < A) (h8 : A ≤ k + 8) (hs : isSm (g k)) (hall : ∀ j, k ≤ j → j < A → isNm (g j)) : nmC g k A = A := by
  unfold nmC
  rw [if_pos ⟨h1, hs⟩]
  have e : A = sc (fun j => isNm (g j)) k A := scx_eq ⟨by omega, .inl (Int.le_refl _), hall, fun z => by omega⟩
  rw [← e]; omega
section F5
variable {m m' : YS} {f : Nat} {i k to a st pa r w : Int} {g : Int → Int} {ss pre bss D : List (List Int)} {q l nm bnm mk bq bmk : List Int}
/-- from a base on -/
theorem y_rel (hf : nfA f) (hg : m f = g) (hS : STK m D) (hD : D.length ≤ 5 ∧ ∀ x ∈ D, x.length ≤ 12 ∧ ¬ wnt x ∧ ∀ c ∈ x, isSg c) (he : m 15 0 = i) (h8 : m 8 0 = 0) (hr : 0 ≤ i ∧ i < to ∧ to ≤ yLn f ∧ to ≤ 100000 ∧ to - i ≤ 2000) (hsg : isSg (g i)) (ha : i ≤ st ∧ st ≤ to) (hno : ∀ j, i ≤ j → j < st → g j ≠ 63 ∧ g j ≠ 35) (hst : st < to → g st = 63 ∨ g st = 35) (hnm : 1 ≤ nm.length ∧ nm.length ≤ 8) (hsz : m 7 0 = 2 + (nm.length : Int)) (hrow : sg (m 6) 0 ([47, 47] ++ nm).length = [47, 47] ++ nm) (hgb : ∀ j, i ≤ j → j < to → isTx (g j)) : ev ((N_Y_oneSegment f to m).bind (u2 fun z14 m17 => if z14 = 0 then some (0, m17) else (N_Y_segments f to m17).bind (u2 fun z23 m26 => if z23 = 0 then some (0, m26) else nk_Y_refer_256 f i to r 1 m26))) (RRQ m (RP1 g i st to nm D)) := by
  have hDfl : D.flatten.length ≤ 60 := by
    have : ∀ l : List (List Int), (∀ x ∈ l, x.length ≤ 12) → l.flatten.length ≤ 12 * l.length := by
      intro l
      induction l with
      | nil => intro _; exact Nat.le_refl _
      | cons x xs ih =>
        intro h
        have h1 := ih (fun y hy => h y (List.mem_cons_of_mem _ hy))
        have h2 := h x List.mem_cons_self
        show (x ++ xs.flatten).length ≤ _
        rw [List.length_append, List.length_cons]; omega
    have := this D (fun x hx => (hD.2 x hx).1)
    omega
  have hfD : D.foldl psh [] = D := by
    have := foldl_psh D [] (fun x hx => (hD.2 x hx).2.1)
    rw [List.nil_append] at this; exact this
  have ho := y_oneSeg (f := f) (to := to) (m := m) ⟨hf.2.2.2.1, hf.2.2.2.2.1, hf.2.2.2.2.2.1, hf.2.2.2.2.2.2.1, hf.2.2.2.2.2.2.2.1⟩ hS (by rw [he]; exact ⟨hr.1, by omega, hr.2.2⟩) (by omega) (by omega)
  rw [he, hg] at ho
  obtain ⟨o1, o2, o3, o4⟩ := spl_one (g := g) (r := i) (to := to) (by omega)
  obtain ⟨r1, r2, r3, r4⟩ := rend_st ha hno hst
  have k0 := scx_ge (p := fun j => isSg (g j)) i to
  have k2 := scx_le (p := fun j => isSg (g j)) (i := i) (to := to) (by omega)
  have k1 : i < sc (fun j => isSg (g j)) i to := by
    by_cases z : i < sc (fun j => isSg (g j)) i to
    · exact z
    · have := scx_at (p := fun j => isSg (g j)) (i := i) (to := to) (by omega)
      rw [show sc (fun j => isSg (g j)) i to = i by omega] at this
      exact absurd hsg this
  have hin := sgs_in (g := g) (a := i) (to := to) (by omega)
  have hflat := spl_flat (g := g) (rndA g i to - i).toNat i
  have hlenS := spl_len (g := g) (rndA g i to - i).toNat i
  generalize sc (fun j => isSg (g j)) i to = k at *
  generalize hre : rndA g i to = re at *
  generalize hx0 : sg g i (k - i).toNat = x0 at *
  generalize htl : (spl g k (re - k).toNat).tail = tl at *
  have hxl : x0.length = (k - i).toNat := by rw [← hx0, sg_len]
  have hsgs : sgs g i (re - i).toNat = x0 :: tl := by
    unfold sgs
    rw [o4]
    show (if x0 = [] then tl else x0 :: tl) = _
    rw [if_neg (fun z => by rw [z] at hxl; have hxl : 0 = (k - i).toNat := hxl; omega)]
  rw [o4] at hflat hlenS
  have hflat : (x0 ++ tl.flatten).length ≤ _ := hflat
  rw [List.length_append] at hflat
  rw [List.length_cons] at hlenS
  refine ev_b2 ho (fun z m1 hz => ?_)
  rcases hz with ⟨z0, z1, z2⟩ | ⟨z0, z1, f1, z3, z4, z5⟩
  · have z0 : z = 0 := z0
    have z1 : m1 = m := z1
    rw [if_pos z0, z1]
    exact ev_ok ⟨FR0.refl, .inl ⟨rfl, RP1_long (s := x0) ha hno hst (by rw [hre, hsgs]; exact List.mem_cons_self) (by omega)⟩⟩
  · have z0 : z = 1 := z0
    have f1 : FY sgF m m1 := f1
    have z3 : STK m1 (psh D x0) := z3
    have z4 : m1 14 0 = if wnt x0 then 1 else 0 := z4
    have z5 : m1 15 0 = k := z5
    have fr1 : FR0 m m1 := f1.fr (fun x hx => by simp at hx; omega)
    have nf1 : m1 f = g := by rw [f1 f (by simp [hf.2.2.2.1, hf.2.2.2.2.1, hf.2.2.2.2.2.1, hf.2.2.2.2.2.2.1, hf.2.2.2.2.2.2.2.1, hf.2.2.2.2.2.2.2.2])]; exact hg
    rw [if_neg (by omega)]
    have hpb := psh_b D x0
    have hs := y_segs (f := f) (to := to) (i := k) (st := psh D x0) (m := m1) ⟨hf.2.2.2.1, hf.2.2.2.2.1, hf.2.2.2.2.2.1, hf.2.2.2.2.2.2.1, hf.2.2.2.2.2.2.2.1, hf.2.2.2.2.2.2.2.2⟩ z3 z5 ⟨by omega, k2, hr.2.2.1, hr.2.2.2.1, by omega⟩ (by rw [nf1, o3]; exact o1) (by omega) (by omega)
    rw [nf1, o3, htl] at hs
    refine ev_b2 hs (fun y m2 hy => ?_)
    obtain ⟨f2, y2⟩ := hy
    have f2 : FY sgF m1 m2 := f2
    have fr2 : FR0 m1 m2 := f2.fr (fun x hx => by simp at hx; omega)
    rcases y2 with ⟨y0, s, hs1, hs2⟩ | ⟨y0, u1, u2, u3, u4, u5⟩
    · have y0 : y = 0 := y0
      rw [if_pos y0]
      exact ev_ok ⟨fr1.trans fr2, .inl ⟨rfl, RP1_long (s := s) ha hno hst (by rw [hre, hsgs]; exact List.mem_cons_of_mem _ hs1) hs2⟩⟩
    · have y0 : y = 1 := y0
      have u3 : m2 15 0 = re := u3
      have u2 : STK m2 (tl.foldl psh (psh D x0)) := u2
      rw [if_neg (by omega)]
      have h12 : ∀ s ∈ x0 :: tl, s.length ≤ 12 := fun s hs => by
        rcases List.mem_cons.mp hs with e | e
        · rw [e]; omega
        · exact u1 s e
      have e14 : m2 14 0 = if wnt ((x0 :: tl).getLastD []) then 1 else 0 := by
        cases hc : tl with
        | nil => exact (u4 hc).trans z4
        | cons u v =>
          have := u5 (by rw [hc]; simp)
          rw [hc] at this
          exact this
      have ef : tl.foldl psh (psh D x0) = (D ++ x0 :: tl).foldl psh [] := by
        rw [List.foldl_append, hfD]; rfl
      have hpf := psh_foldb tl (psh D x0)
      have hfin := y_fin (m := m2) (f := f) (g := g) (k := re) (to := to) (i := i) (r := r) (pa := 1) (nm := nm) (st := tl.foldl psh (psh D x0)) (w := if wnt ((x0 :: tl).getLastD []) then 1 else 0) (bq := []) (bnm := []) (ss := []) (bmk := []) hf (by rw [f2 f (by simp [hf.2.2.2.1, hf.2.2.2.2.1, hf.2.2.2.2.2.1, hf.2.2.2.2.2.2.1, hf.2.2.2.2.2.2.2.1, hf.2.2.2.2.2.2.2.2])]; exact nf1) u2 e14 u3 (by rw [f2 8 (by decide), f1 8 (by decide)]; exact h8) ⟨by omega, by omega, hr.2.2.1, hr.2.2.2.1⟩ ⟨hr.1, by omega⟩ hnm (by rw [f2 7 (by decide), f1 7 (by decide)]; exact hsz) (by rw [f2 6 (by decide), f1 6 (by decide)]; exact hrow) (fun x hx => by
        rw [ef] at hx
        rcases psh_mem (D ++ x0 :: tl) [] hx with u | u
        · cases u
        · rcases List.mem_append.mp u with e | e
          · exact ⟨(hD.2 x e).1, (hD.2 x e).2.2⟩
          · exact ⟨h12 x e, hin x (by rw [hsgs]; exact e)⟩) (by omega) (by omega) (fun j ja jb => hgb j (by omega) jb) (.inl ⟨by decide, rfl⟩)
      rw [ef, fin_eq] at hfin
      refine ev_mono hfin (fun x hx => RRQ.fr (fr1.trans fr2) (RFQ.conv (a := i) (st := st) (to := to) (g := g) ha hno hst (by rw [hre, hsgs]; exact hx) (by rw [hre, hsgs]; exact h12)))
theorem y_refer (hf : nfA f) (hg : m f = g) (hr : 0 ≤ i ∧ i ≤ to ∧ to ≤ yLn f ∧ to ≤ 99990 ∧ to - i ≤ 2000) (hgb : ∀ j, i ≤ j → j < to → isTx (g j)) (hrr : 1 ≤ r ∧ r < 66) (hR : RA m r bnm bss bq bmk) (hW : WFA bnm bss bq bmk) : ev (N_Y_refer f i to r m) (RRQ m (RF g i to bnm bss bq)) := by
  unfold N_Y_refer
  refine ev_st (ev_st (ev_st (ev_ix (by omega) (ev_st (ev_ix (by omega) (ev_st ?_))))))
  generalize hm2 : yw (yw (yw (yw (yw m 12 0 0) 14 0 0) 15 0 i) 7 0 0) 8 0 0 = m2
  have c12 : m2 12 0 = 0 := by rw [← hm2]; simp [yw_app]
  have c14 : m2 14 0 = 0 := by rw [← hm2]; simp [yw_app]
  have c15 : m2 15 0 = i := by rw [← hm2]; simp [yw_app]
  have c7 : m2 7 0 = 0 := by rw [← hm2]; simp [yw_app]
  have c8 : m2 8 0 = 0 := by rw [← hm2]; simp [yw_app]
  have fr : FR0 m m2 := by
    refine ⟨fun x hx => ?_, fun j hj => ?_, fun q hq => ⟨?_, ?_⟩⟩
    · simp only [List.mem_cons, List.not_mem_nil, or_false, not_or] at hx
      rw [← hm2, yw_nF hx.2.2.1, yw_nF hx.2.1, yw_nF hx.2.2.2.2.2.2.2.2, yw_nF hx.2.2.2.2.2.2.2.1, yw_nF hx.2.2.2.2.2.2.1]
    · rw [← hm2, yw_nF (by decide), yw_nF (by decide), yw_nF (by decide), yw_nF (by decide), yw_nF (by decide)]
    · rw [← hm2, yw_nF (by decide), yw_ni hq, yw_nF (by decide), yw_nF (by decide), yw_nF (by decide)]
    · rw [← hm2, yw_ni hq, yw_nF (by decide), yw_nF (by decide), yw_nF (by decide), yw_nF (by decide)]
  have hg2 : m2 f = g := by rw [fr.1 f (by simp [hf.1, hf.2.1, hf.2.2.1, hf.2.2.2.1, hf.2.2.2.2.1, hf.2.2.2.2.2.1, hf.2.2.2.2.2.2.1, hf.2.2.2.2.2.2.2.1, hf.2.2.2.2.2.2.2.2])]; exact hg
  have hS2 : STK m2 [] := ⟨c12, fun j hj => absurd hj (by simp), rfl⟩
  have hR2 : RA m2 r bnm bss bq bmk := hR.fr hW hrr.1 fr
  suffices hmain : ev (ck (i + 1) (if i + 1 < to then ix i (yLn f : Int) (if m2 f i = 47 then ck (i + 1) (ix (i + 1) (yLn f : Int) (if m2 f (i + 1) = 47 then ck (i + 2) ((N_Y_nameEnd f (i + 2) to m2).bind fun z34 => ck (i + 2) (if z34 = i + 2 then some (0, m2) else (NL_Y_refer_80 f i to r 1 z34 i m2).bind fun m40 => st (yw m40 15 0 z34) fun m44 => (N_Y_segments f to m44).bind (u2 fun z48 m51 => if z48 = 0 then some (0, m51) else if z34 = m51 15 0 then (N_Y_segment f i 0 m51).bind fun m59 => nk_Y_refer_135 f i to r 1 m59 else nk_Y_refer_135 f i to r 1 m51))) else nk_Y_refer_138 f i to r 1 m2)) else nk_Y_refer_138 f i to r 1 m2) else nk_Y_refer_138 f i to r 1 m2)) (RRQ m2 (RF g i to bnm bss bq)) from ev_mono hmain (fun x hx => RRQ.fr fr hx)
  clear hm2 fr hR hg
  rw [hg2]
  have y1 : i ≤ stpA g i to := scx_ge (p := fun j => g j ≠ 63 ∧ g j ≠ 35) i to
  have y2 : stpA g i to ≤ to := scx_le (p := fun j => g j ≠ 63 ∧ g j ≠ 35) hr.2.1
  have y3 : stpA g i to < to → g (stpA g i to) = 63 ∨ g (stpA g i to) = 35 := fun z => by
    have := scx_at (p := fun j => g j ≠ 63 ∧ g j ≠ 35) z
    by_cases z1 : g (stpA g i to) = 63
    · exact .inl z1
    · by_cases z2 : g (stpA g i to) = 35
      · exact .inr z2
      · exact absurd ⟨z1, z2⟩ this
  have y4 : ∀ j, i ≤ j → j < stpA g i to → g j ≠ 63 ∧ g j ≠ 35 := fun j ja jb => scx_in (p := fun j => g j ≠ 63 ∧ g j ≠ 35) ja jb
  unfold RF
  generalize stpA g i to = st at *
  refine ev_ck (by omega) ?_
  -- no site of its own
  have base : ¬ (i + 1 < st ∧ g i = 47 ∧ g (i + 1) = 47) → ev (nk_Y_refer_138 f i to r 1 m2) (RRQ m2 (if i + 1 < st ∧ g i = 47 ∧ g (i + 1) = 47 then (if i + 2 < sc (fun j => g j ≠ 47) (i + 2) st ∧ nmC g (i + 2) (sc (fun j => g j ≠ 47) (i + 2) st) = sc (fun j => g j ≠ 47) (i + 2) st then RP1 g (sc (fun j => g j ≠ 47) (i + 2) st) st to (sg g (i + 2) (sc (fun j => g j ≠ 47) (i + 2) st - i - 2).toNat) [] else none) else if i = st then (RTl g i to bq).map (fun r => (bnm, bss, r.1, r.2)) else if g i = 47 then RP1 g i st to bnm [] else RP1 g i st to bnm bss.dropLast)) := fun hno => by
    rw [if_neg hno]
    unfold nk_Y_refer_138
    rw [y_siteEnd hR2 hW ⟨by omega, hrr.2⟩]
    simp only [Option.bind_some]
    obtain ⟨p1, p2, p3, p4⟩ := hR2.parts
    have hn := hW.1
    have l0 : ((([47, 47] ++ bnm : List Int).length : Nat) : Int) = 2 + (bnm.length : Int) := by rw [List.length_append]; show ((2 + bnm.length : Nat) : Int) = _; omega
    have hrowb : ∀ c ∈ [47, 47] ++ bnm, isTx c := fun c hc => by
      rcases List.mem_append.mp hc with z | z
      · simp at z; omega
      · have := hn.2.2 c z; omega
    have hloop := y_putLoop (m := m2) (r := 0) (F := fun s : Int × YS => nb_Y_refer_149 f i to r 1 (2 + (bnm.length : Int)) s.1 s.2) (src := fun j => m2 6 (r * 150 + j)) (k0 := 0) (k1 := 2 + (bnm.length : Int)) (by omega) (fun j m4 k1 k2 h4 => by
      have z74 := h4.2.1
      rw [sg_len] at z74
      have z6 : m4 6 (r * 150 + j) = m2 6 (r * 150 + j) := h4.2.2.2.2 _ (by rw [sg_len]; omega)
      show ev (nb_Y_refer_149 f i to r 1 (2 + (bnm.length : Int)) j m4) _
      unfold nb_Y_refer_149
      rw [if_pos k2, z6]
      have hm := sg_at (g := m2 6) ([47, 47] ++ bnm).length (150 * r) j.toNat (by omega)
      rw [p1, show 150 * r + ((j.toNat : Nat) : Int) = r * 150 + j by omega] at hm
      have hc := hrowb _ hm
      exact ev_ck (by omega) (ev_ck (by omega) (ev_ix (by omega) (ev_bind (y_put (r := 0) (by omega) (by omega) (by omega)) (fun m5 h5 => ev_ck (by omega) (ev_ok ⟨m5, rfl, h5⟩)))))) (fun m4 h4 => by
      show nb_Y_refer_149 f i to r 1 (2 + (bnm.length : Int)) (2 + (bnm.length : Int)) m4 = _
      unfold nb_Y_refer_149
      rw [if_neg (by omega)])
    have hsrc : sg (fun j => m2 6 (r * 150 + j)) 0 (2 + (bnm.length : Int) - 0).toNat = [47, 47] ++ bnm := by
      rw [show (2 + (bnm.length : Int) - 0).toNat = ([47, 47] ++ bnm).length by omega]
      refine Eq.trans (sg_cg _ _ (150 * r) (fun x hx => ?_)) p1
      show m2 6 (r * 150 + (0 + (x : Int))) = m2 6 (150 * r + x)
      congr 1; omega
    rw [hsrc] at hloop
    unfold NL_Y_refer_149
    refine ev_bind hloop (fun m5 h5 => ?_)
    have hl5 := h5.2.1
    have fr5 : FR0 m2 m5 := h5.fr (by omega)
    have hg5 : m5 f = g := by rw [h5.1 f (by simp [hf.1, hf.2.1])]; exact hg2
    have hS5 : STK m5 [] := hS2.cg (h5.1 9 (by decide)) (h5.1 10 (by decide)) (h5.1 11 (by decide)) (h5.1 12 (by decide))
    have e15 : m5 15 0 = i := by rw [h5.1 15 (by decide)]; exact c15
    have e14 : m5 14 0 = 0 := by rw [h5.1 14 (by decide)]; exact c14
    have e8 : m5 8 0 = 0 := by rw [h5.1 8 (by decide)]; exact c8
    have e7 : m5 7 0 = 2 + (bnm.length : Int) := by omega
    have hrow : sg (m5 6) 0 ([47, 47] ++ bnm).length = [47, 47] ++ bnm := by
      have := h5.2.2.2.1
      rw [c7] at this; exact this
    have hR5 : RA m5 r bnm bss bq bmk := hR2.fr hW hrr.1 fr5
    rw [hg5]
    -- nothing of a path
    have none246 : (i = st ∨ (i < st ∧ ¬ isSg (g i) ∧ g i ≠ 47)) → ev (nk_Y_refer_246 f i to r m5) (RRQ m2 (if i = st then (RTl g i to bq).map (fun r => (bnm, bss, r.1, r.2)) else if g i = 47 then RP1 g i st to bnm [] else RP1 g i st to bnm bss.dropLast)) := fun hor => by
      unfold nk_Y_refer_246
      refine ev_bind (y_baseSegs (al := 1) hR5 hW ⟨by omega, hrr.2⟩ hS5 e14) (fun m6 h6 => ?_)
      obtain ⟨f6, s6, w6⟩ := h6
      rw [if_neg (by decide)] at s6
      have fr6 : FR0 m5 m6 := f6.fr (fun x hx => by simp at hx; omega)
      have hss := hW.2.1
      have hfl : bss.flatten.length ≤ 100 := by
        have hl := hW.len
        have : ∀ l : List (List Int), l.flatten.length ≤ (pth l).length := by
          intro l
          induction l with
          | nil => exact Nat.le_refl _
          | cons x xs ih =>
            show (x ++ xs.flatten).length ≤ ((47 :: x) ++ pth xs).length
            rw [List.length_append, List.length_append, List.length_cons]; omega
        have := this bss
        omega
      have hfin := y_fin (m := m6) (f := f) (g := g) (k := i) (to := to) (i := i) (r := r) (pa := 0) (nm := bnm) (st := bss) (w := 0) (bq := bq) (bnm := bnm) (ss := bss) (bmk := bmk) hf (by rw [f6 f (by simp [hf.2.2.2.1, hf.2.2.2.2.1, hf.2.2.2.2.2.1, hf.2.2.2.2.2.2.1, hf.2.2.2.2.2.2.2.1])]; exact hg5) s6 w6 (by rw [f6 15 (by decide)]; exact e15) (by rw [f6 8 (by decide)]; exact e8) ⟨hr.1, hr.2.1, hr.2.2.1, by omega⟩ ⟨hr.1, hr.2.1⟩ ⟨hn.1, hn.2.1⟩ (by rw [f6 7 (by decide)]; exact e7) (by rw [f6 6 (by decide)]; exact hrow) (fun x hx => ⟨(hss.2.2 x hx).1, (hss.2.2 x hx).2.2⟩) (by omega) (by omega) hgb (.inr ⟨rfl, hrr.1, hrr.2, hR5.fr hW hrr.1 fr6, hW⟩)
      have efin : finS 0 bss = bss := by unfold finS; rw [if_pos ⟨rfl, hss.1⟩]
      rw [efin] at hfin
      refine ev_mono hfin (fun x hx => RRQ.fr (fr5.trans fr6) ⟨hx.1, ?_⟩)
      rcases hor with hz | ⟨z1, z2, z3⟩
      · rw [if_pos hz]
        rcases hx.2 with ⟨x1, x2⟩ | ⟨x1, x2, q, mk, x3, x4⟩
        · rcases x2 with u | u
          · omega
          · exact .inl ⟨x1, by rw [u]; rfl⟩
        · exact .inr ⟨x1, bnm, bss, q, mk, by rw [x3]; rfl, x4⟩
      · rw [if_neg (by omega), if_neg z3, RP1_no (fun u => by
          rcases u.1 i (Int.le_refl _) z1 with v | v
          · exact z2 v
          · exact z3 v)]
        rcases hx.2 with ⟨x1, x2⟩ | ⟨x1, x2, q, mk, x3, x4⟩
        · exact .inl ⟨x1, rfl⟩
        · have := y4 i (Int.le_refl _) z1
          unfold RTl RMk at x3
          rw [if_neg (fun u => this.1 u.2), if_neg (by omega), if_neg (fun u => this.2 u.1)] at x3
          cases x3
    have ist : i < to → ¬ isSg (g i) → g i ≠ 47 → (i = st ∨ (i < st ∧ ¬ isSg (g i) ∧ g i ≠ 47)) := fun u1 u2 u3 => by
      by_cases z : i = st
      · exact .inl z
      · exact .inr ⟨by omega, u2, u3⟩
    have notst : i < to → (isSg (g i) ∨ g i = 47) → i ≠ st := fun u1 u2 z => by
      have := y3 (by omega)
      rw [← z] at this
      omega
    have rest205 : (i < to → g i ≠ 47) → ev (nk_Y_refer_205 f i to r 1 m5) (RRQ m2 (if i = st then (RTl g i to bq).map (fun r => (bnm, bss, r.1, r.2)) else if g i = 47 then RP1 g i st to bnm [] else RP1 g i st to bnm bss.dropLast)) := fun h47 => by
      unfold nk_Y_refer_205
      rw [hg5]
      refine ev_if (fun hlt => ev_ix (by omega) (ev_bz ys_segment (fun hp => ?_) (fun hp => ?_))) (fun hge => none246 (.inl (by omega)))
      · rw [if_neg (show ¬ (1 : Int) = 0 by decide)]
        have hns := notst hlt (.inl hp)
        rw [if_neg hns, if_neg (h47 hlt)]
        refine ev_bind (y_baseSegs (al := 0) hR5 hW ⟨by omega, hrr.2⟩ hS5 e14) (fun m6 h6 => ?_)
        obtain ⟨f6, s6, w6⟩ := h6
        rw [if_pos rfl] at s6
        have fr6 : FR0 m5 m6 := f6.fr (fun x hx => by simp at hx; omega)
        have hss := hW.2.1
        refine ev_mono (y_rel (D := bss.dropLast) (st := st) (nm := bnm) hf (by rw [f6 f (by simp [hf.2.2.2.1, hf.2.2.2.2.1, hf.2.2.2.2.2.1, hf.2.2.2.2.2.2.1, hf.2.2.2.2.2.2.2.1])]; exact hg5) s6 ⟨by rw [List.length_dropLast]; omega, fun x hx => hss.2.2 x (List.dropLast_subset bss hx)⟩ (by rw [f6 15 (by decide)]; exact e15) (by rw [f6 8 (by decide)]; exact e8) ⟨hr.1, hlt, hr.2.2.1, by omega, hr.2.2.2.2⟩ hp ⟨y1, y2⟩ y4 y3 ⟨hn.1, hn.2.1⟩ (by rw [f6 7 (by decide)]; exact e7) (by rw [f6 6 (by decide)]; exact hrow) hgb) (fun x hx => RRQ.fr (fr5.trans fr6) hx)
      · rw [if_pos rfl]; exact none246 (ist hlt hp (h47 hlt))
    refine ev_if (fun hlt => ev_ix (by omega) (ev_if (fun h47 => ?_) (fun h47 => rest205 (fun _ => h47)))) (fun hge => rest205 (fun z => absurd z hge))
    have hns := notst hlt (.inr h47)
    rw [if_neg hns, if_pos h47]
    exact ev_mono (y_abs (a := i) (st := st) (i := i) (r := r) (G := fun m1 => nk_Y_refer_256 f i to r 1 m1) hf hg5 hS5 e15 e8 ⟨hr.1, hlt, hr.2.2.1, by omega, hr.2.2.2.2⟩ ⟨hr.1, hr.2.1⟩ h47 ⟨y1, y2⟩ y4 y3 ⟨hn.1, hn.2.1⟩ e7 hrow hgb (fun _ _ => rfl)) (fun x hx => RRQ.fr fr5 hx)
  refine ev_if (fun hlt => ev_ix (by omega) (ev_if (fun p1 => ev_ck (by omega) (ev_ix (by omega) (ev_if (fun p2 => ?_) (fun p2 => base (fun z => p2 z.2.2))))) (fun p1 => base (fun z => p1 z.2.1)))) (fun hge => base (fun z => by omega))
  have hst2 : i + 2 ≤ st := by
    by_cases z : i + 2 ≤ st
    · exact z
    · have z3 := y3 (by omega)
      by_cases z4 : st = i
      · rw [z4, p1] at z3; omega
      · rw [show st = i + 1 by omega, p2] at z3; omega
  rw [if_pos ⟨by omega, p1, p2⟩]
  refine ev_ck (by omega) ?_
  rw [ys_nameEnd (f := f) hr.2.2.1 (by omega) (by omega) (by omega), hg2]
  simp only [Option.bind_some]
  refine ev_ck (by omega) ?_
  have a1 := scx_ge (p := fun j => g j ≠ 47) (i + 2) st
  have a2 := scx_le (p := fun j => g j ≠ 47) (i := i + 2) (to := st) hst2
  have a4 : sc (fun j => g j ≠ 47) (i + 2) st < st → g (sc (fun j => g j ≠ 47) (i + 2) st) = 47 := fun z => by
    have := scx_at (p := fun j => g j ≠ 47) z
    by_cases y : g (sc (fun j => g j ≠ 47) (i + 2) st) = 47
    · exact y
    · exact absurd y this
  have a5 : sc (fun j => g j ≠ 47) (i + 2) st < to → ¬ isNm (g (sc (fun j => g j ≠ 47) (i + 2) st)) := fun z => by
    by_cases y : sc (fun j => g j ≠ 47) (i + 2) st < st
    · rw [a4 y]; omega
    · have e : sc (fun j => g j ≠ 47) (i + 2) st = st := by omega
      rw [e] at z ⊢
      have := y3 z
      omega
  obtain ⟨_, n1, n2, n3⟩ := nm_iff (g := g) (k := i + 2) (to := to) (by omega)
  have a6 : ∀ z, z = nmE g (i + 2) to → (i + 2 < sc (fun j => g j ≠ 47) (i + 2) st ∧ nmC g (i + 2) (sc (fun j => g j ≠ 47) (i + 2) st) = sc (fun j => g j ≠ 47) (i + 2) st) → z = sc (fun j => g j ≠ 47) (i + 2) st := fun z e hh => by rw [e]; exact nmC_nmE hh.1 (by omega) hh.2 a5
  have a6 := a6 _ rfl
  have nin := nmE_in (g := g) (k := i + 2) (to := to) (by omega)
  generalize nmE g (i + 2) to = z at *
  by_cases hz : z = i + 2
  · rw [if_pos hz, if_neg (fun hh => by have := a6 hh; omega)]
    exact ev_ok ⟨FR0.refl, .inl ⟨rfl, rfl⟩⟩
  · rw [if_neg hz]
    obtain ⟨_, nsm, nall, nend⟩ := nin hz
    have zst : z ≤ st := by
      by_cases y : z ≤ st
      · exact y
      · have q1 := y3 (by omega)
        have q2 := nall st hst2 (by omega)
        omega
    have hloop := y_putLoop (m := m2) (r := 0) (F := fun s : Int × YS => nb_Y_refer_80 f i to r 1 z s.1 s.2) (src := g) (k0 := i) (k1 := z) (by omega) (fun j m4 k1 k2 h4 => by
      have z74 := h4.2.1
      rw [sg_len] at z74
      have zf : m4 f = g := by rw [h4.1 f (by simp [hf.1, hf.2.1])]; exact hg2
      show ev (nb_Y_refer_80 f i to r 1 z j m4) _
      unfold nb_Y_refer_80
      rw [zf, if_pos k2]
      have hc := hgb j k1 (by omega)
      exact ev_ix (by omega) (ev_bind (y_put (r := 0) (by omega) (by omega) (by omega)) (fun m5 h5 => ev_ck (by omega) (ev_ok ⟨m5, rfl, h5⟩)))) (fun m4 h4 => by
      show nb_Y_refer_80 f i to r 1 z z m4 = _
      unfold nb_Y_refer_80
      rw [if_neg (by omega)])
    unfold NL_Y_refer_80
    refine ev_bind hloop (fun m4 h4 => ev_st ?_)
    have hl4 := h4.2.1
    rw [sg_len] at hl4
    have fr4 : FR0 m2 m4 := h4.fr (by rw [sg_len]; omega)
    generalize hm5 : yw m4 15 0 z = m5
    have f5 : FY [15] m4 m5 := fun x hx => by rw [← hm5]; exact yw_nF (fun y => hx (by simp [y]))
    have fr5 : FR0 m4 m5 := f5.fr (fun x hx => by simp at hx; omega)
    have e15 : m5 15 0 = z := by rw [← hm5, yw_eq]
    have hg5 : m5 f = g := by rw [f5 f (by simp [hf.2.2.2.2.2.2.2.2]), h4.1 f (by simp [hf.1, hf.2.1])]; exact hg2
    have hS4 : STK m4 [] := hS2.cg (h4.1 9 (by decide)) (h4.1 10 (by decide)) (h4.1 11 (by decide)) (h4.1 12 (by decide))
    have hS5 : STK m5 [] := hS4.cg (f5 9 (by decide)) (f5 10 (by decide)) (f5 11 (by decide)) (f5 12 (by decide))
    have e8 : m5 8 0 = 0 := by rw [f5 8 (by decide), h4.1 8 (by decide)]; exact c8
    have e14 : m5 14 0 = 0 := by rw [f5 14 (by decide), h4.1 14 (by decide)]; exact c14
    generalize hnm : sg g (i + 2) (z - i - 2).toNat = nm' at *
    have hnl : nm'.length = (z - i - 2).toNat := by rw [← hnm, sg_len]
    have e7 : m5 7 0 = 2 + (nm'.length : Int) := by rw [f5 7 (by decide)]; omega
    have esite : sg g i (z - i).toNat = [47, 47] ++ nm' := by
      rw [show (z - i).toNat = 2 + (z - i - 2).toNat by omega, sg_app]
      show [g i, g (i + 1)] ++ sg g (i + 2) (z - i - 2).toNat = _
      rw [p1, p2, hnm]
    have hrow : sg (m5 6) 0 ([47, 47] ++ nm').length = [47, 47] ++ nm' := by
      have := h4.2.2.2.1
      rw [c7, esite] at this
      rw [f5 6 (by decide)]; exact this
    by_cases h47 : z < to ∧ g z = 47
    · have zlt : z < st := by
        by_cases y : z < st
        · exact y
        · have q1 := y3 (by omega)
          rw [show st = z by omega, h47.2] at q1; omega
      have hAT : z = sc (fun j => g j ≠ 47) (i + 2) st := scx_eq ⟨by omega, .inl zst, fun j ja jb => by have := nall j ja jb; omega, fun _ y => y h47.2⟩
      rw [← hAT, if_pos ⟨by omega, nmC_all (by omega) (by omega) nsm nall⟩, hnm]
      refine ev_mono (y_abs (a := z) (st := st) (i := i) (r := r) (nm := nm') (G := fun m51 => if z = m51 15 0 then (N_Y_segment f i 0 m51).bind fun m59 => nk_Y_refer_135 f i to r 1 m59 else nk_Y_refer_135 f i to r 1 m51) hf hg5 hS5 e15 e8 ⟨by omega, h47.1, hr.2.2.1, by omega, by omega⟩ ⟨hr.1, hr.2.1⟩ h47.2 ⟨zst, y2⟩ (fun j ja jb => y4 j (by omega) jb) y3 (by omega) e7 hrow (fun j ja jb => hgb j (by omega) jb) (fun m1 h1 => ?_)) (fun x hx => RRQ.fr (fr4.trans fr5) hx)
      rw [if_neg (fun y => h1 y.symm)]; rfl
    · have hs : N_Y_segments f to m5 = some (1, m5) := by
        apply eq_of_ev
        unfold N_Y_segments NL_Y_segments_0
        refine ev_bs (P := fun _ => False) (R := fun m1 => m1 = m5) (ev_itu ?_) (fun _ h => h.elim) (fun m1 h => ev_ok (by rw [h]))
        unfold nb_Y_segments_0
        rw [e15, hg5]
        exact ev_if (fun hl => ev_ix (by omega) (ev_if (fun h => absurd ⟨hl, h⟩ h47) (fun _ => ev_ur rfl))) (fun _ => ev_ur rfl)
      rw [hs]
      simp only [Option.bind_some]
      unfold u2
      simp only
      rw [if_neg (show ¬ (1 : Int) = 0 by decide), e15, if_pos rfl]
      refine ev_bind (y_segment (L := 0) ⟨hf.2.2.2.1, hf.2.2.2.2.1, hf.2.2.2.2.2.1, hf.2.2.2.2.2.2.1, hf.2.2.2.2.2.2.2.1⟩ hS5 hr.1 ⟨by omega, by omega⟩ (by omega) (by omega) (by decide) (by decide)) (fun m6 h6 => ?_)
      obtain ⟨f6, s6, w6⟩ := h6
      have s6 : STK m6 [[]] := s6
      have w6 : m6 14 0 = 0 := w6
      have fr6 : FR0 m5 m6 := f6.fr (fun x hx => by simp at hx; omega)
      unfold nk_Y_refer_135
      have hfin := y_fin (m := m6) (f := f) (g := g) (k := z) (to := to) (i := i) (r := r) (pa := 1) (nm := nm') (st := [[]]) (w := 0) (bq := []) (bnm := []) (ss := []) (bmk := []) hf (by rw [f6 f (by simp [hf.2.2.2.1, hf.2.2.2.2.1, hf.2.2.2.2.2.1, hf.2.2.2.2.2.2.1, hf.2.2.2.2.2.2.2.1])]; exact hg5) s6 w6 (by rw [f6 15 (by decide)]; exact e15) (by rw [f6 8 (by decide)]; exact e8) ⟨by omega, by omega, hr.2.2.1, by omega⟩ ⟨hr.1, hr.2.1⟩ (by omega) (by rw [f6 7 (by decide)]; exact e7) (by rw [f6 6 (by decide)]; exact hrow) (fun x hx => by rw [List.mem_singleton.mp hx]; exact ⟨Nat.zero_le _, fun c hc => by cases hc⟩) (by decide) (by decide) (fun j ja jb => hgb j (by omega) jb) (.inl ⟨by decide, rfl⟩)
      have efin : finS 0 [([] : List Int)] = [[]] := rfl
      rw [efin] at hfin
      refine ev_mono hfin (fun x hx => RRQ.fr ((fr4.trans fr5).trans fr6) ⟨hx.1, ?_⟩)
      by_cases hAT : sc (fun j => g j ≠ 47) (i + 2) st = z
      · rw [hAT] at a4 ⊢
        have ezs : z = st := by
          by_cases y : z < st
          · exact absurd ⟨by omega, a4 y⟩ h47
          · omega
        rw [if_pos ⟨by omega, nmC_all (by omega) (by omega) nsm nall⟩, hnm]
        have hs0 : sgs g z (st - z).toNat = [] := by rw [show (st - z).toNat = 0 by omega]; rfl
        rw [RP1_yes ⟨fun j ja jb => by omega, fun y hy => (by rw [hs0] at hy; cases hy), (by rw [hs0]; decide)⟩, hs0, ← ezs]
        rcases hx.2 with ⟨x1, x2⟩ | ⟨x1, x2, q, mk, x3, x4⟩
        · rcases x2 with u | u
          · exact absurd u (by decide)
          · exact .inl ⟨x1, by rw [u]; rfl⟩
        · exact .inr ⟨x1, nm', [[]], q, mk, by rw [x3]; rfl, x4⟩
      · rw [if_neg (fun hh => hAT (a6 hh).symm)]
        have zlt : z < st := by
          by_cases y : z < sc (fun j => g j ≠ 47) (i + 2) st
          · omega
          · have q1 := a4 (by omega)
            have q2 := nall _ a1 (by omega)
            omega
        have hq := y4 z (by omega) zlt
        rcases hx.2 with ⟨x1, x2⟩ | ⟨x1, x2, q, mk, x3, x4⟩
        · exact .inl ⟨x1, rfl⟩
        · unfold RTl RMk at x3
          rw [if_neg (fun u => hq.1 u.2), if_neg (by omega), if_neg (fun u => hq.2 u.1)] at x3
          cases x3
end F5
