/-! methods on numbers, group 11 -/
noncomputable def nb_Y_lay_276 (v1 : Int) (m : YS) : Option ((Int × YS) ⊕ (YS)) :=
  if v1 < 0 then
    some (.inr m)
  else
    ix v1 120 <|
    ix (m 124 v1) 120 <|
    if (m 107 (m 124 v1)) = 1 then
      ix v1 120 <|
      (N_Y_layBlock (m 124 v1) m).bind fun m13 =>
      ck (v1 + (-1)) <|
      some (.inl (v1 + (-1), m13))
    else
      ix v1 120 <|
      ix (m 124 v1) 120 <|
      if (m 107 (m 124 v1)) = 2 then
        ix v1 120 <|
        (N_Y_layFlex (m 124 v1) m).bind fun m28 =>
        ck (v1 + (-1)) <|
        some (.inl (v1 + (-1), m28))
      else
        ck (v1 + (-1)) <|
        some (.inl (v1 + (-1), m))
theorem fb_Y_lay_276 {w y : Prop} {g : g_S} {n : NS} {m : YS} (hy : y) {xv1 : Int32} {v1 : Int} (ev1 : xv1 = Int32.ofInt v1) (rv1 : inR v1) (hR : RC w y g n m) : Rf (RS (fun a b => RI a.1 b.1 ∧ RC w y a.2 n b.2) (fun a b => RC w y a n b)) (b_Y_lay_276 1838 xv1 g) (nb_Y_lay_276 v1 m) := by
  subst ev1
  unfold b_Y_lay_276 nb_Y_lay_276
  refine rf_lt rfl (e_n 0) rv1 (show inR 0 by decide) ?_ ?_
  · exact rf_ok (by exact hR)
  · refine y_Q hR hy ya107.1 (by decide) ?_
    refine y_Q hR hy ya124.1 (by decide) ?_
    refine y_aI hR hy ya124 yl124 rfl rv1 (fun h4 h5 => ?_)
    refine y_aI hR hy ya107 yl107 rfl h5 (fun h6 h7 => ?_)
    refine rf_eq rfl (e_n 1) h7 (show inR 1 by decide) ?_ ?_
    · refine y_Q hR hy ya124.1 (by decide) ?_
      refine y_aI hR hy ya124 yl124 rfl rv1 (fun h10 h11 => ?_)
      refine v_c (y_gt hR hy) ?_
      refine rf_bind (f_Y_layBlock hy rfl h11 hR) (fun g15 m13 hR14 => ?_)
      refine rf_ck (fun h16 => ?_)
      exact rf_ok (by exact ⟨⟨(e_add rfl (e_m 1)), h16⟩, hR14⟩)
    · refine y_Q hR hy ya107.1 (by decide) ?_
      refine y_Q hR hy ya124.1 (by decide) ?_
      refine y_aI hR hy ya124 yl124 rfl rv1 (fun h19 h20 => ?_)
      refine y_aI hR hy ya107 yl107 rfl h20 (fun h21 h22 => ?_)
      refine rf_eq rfl (e_n 2) h22 (show inR 2 by decide) ?_ ?_
      · refine y_Q hR hy ya124.1 (by decide) ?_
        refine y_aI hR hy ya124 yl124 rfl rv1 (fun h25 h26 => ?_)
        refine v_c (y_gt hR hy) ?_
        refine rf_bind (f_Y_layFlex hy rfl h26 hR) (fun g30 m28 hR29 => ?_)
        refine rf_ck (fun h31 => ?_)
        exact rf_ok (by exact ⟨⟨(e_add rfl (e_m 1)), h31⟩, hR29⟩)
      · refine rf_ck (fun h32 => ?_)
        exact rf_ok (by exact ⟨⟨(e_add rfl (e_m 1)), h32⟩, hR⟩)
noncomputable def NL_Y_lay_276 (v1 : Int) (m : YS) : Option (YS) :=
  it (fun s : Int × YS => nb_Y_lay_276 s.1 s.2) (v1, m)
theorem fL_Y_lay_276 {w y : Prop} {g : g_S} {n : NS} {m : YS} (hy : y) {xv1 : Int32} {v1 : Int} (ev1 : xv1 = Int32.ofInt v1) (rv1 : inR v1) (hR : RC w y g n m) : Rf (fun a b => RC w y a n b) (L_Y_lay_276 1838 xv1 g) (NL_Y_lay_276 v1 m) := by
  subst ev1
  unfold L_Y_lay_276 NL_Y_lay_276
  refine rf_it (I := (fun a b => RI a.1 b.1 ∧ RC w y a.2 n b.2)) (fun s t h => ?_) ⟨⟨rfl, rv1⟩, hR⟩
  exact fb_Y_lay_276 hy h.1.1 h.1.2 h.2
theorem NL_Y_lay_276_eq (v1 : Int) (m : YS) : NL_Y_lay_276 v1 m = itc (nb_Y_lay_276 v1 m) (fun s => NL_Y_lay_276 s.1 s.2) := it_eq2 (fun s : Int × YS => nb_Y_lay_276 s.1 s.2) (v1, m)
noncomputable def nb_Y_lay_458 (v1 : Int) (m : YS) : Option ((Int × YS) ⊕ (YS)) :=
  if v1 < (m 117 0) then
    ix v1 24000 <|
    ix (m 118 v1) 120 <|
    ix v1 24000 <|
    ix (m 109 (m 118 v1)) 120 <|
    (N_Y_edges (m 109 (m 118 v1)) m).bind fun z16 =>
    ck ((m 110 (m 109 (m 118 v1))) + z16) <|
    ck ((m 121 v1) + ((m 110 (m 109 (m 118 v1))) + z16)) <|
    ix v1 24000 <|
    st (yw m 121 v1 ((m 121 v1) + ((m 110 (m 109 (m 118 v1))) + z16))) fun m22 =>
    ix v1 24000 <|
    ix (m 109 (m 118 v1)) 120 <|
    (N_Y_edges (m 109 (m 118 v1)) m22).bind fun z32 =>
    ck ((m22 111 (m 109 (m 118 v1))) + z32) <|
    ck ((m22 122 v1) + ((m22 111 (m 109 (m 118 v1))) + z32)) <|
    ix v1 24000 <|
    st (yw m22 122 v1 ((m22 122 v1) + ((m22 111 (m 109 (m 118 v1))) + z32))) fun m38 =>
    ck (v1 + 1) <|
    some (.inl (v1 + 1, m38))
  else
    some (.inr m)
theorem fb_Y_lay_458 {w y : Prop} {g : g_S} {n : NS} {m : YS} (hy : y) {xv1 : Int32} {v1 : Int} (ev1 : xv1 = Int32.ofInt v1) (rv1 : inR v1) (hR : RC w y g n m) : Rf (RS (fun a b => RI a.1 b.1 ∧ RC w y a.2 n b.2) (fun a b => RC w y a n b)) (b_Y_lay_458 1838 xv1 g) (nb_Y_lay_458 v1 m) := by
  subst ev1
  unfold b_Y_lay_458 nb_Y_lay_458
  refine y_I hR hy yk117 yt117 (fun h1 => ?_)
  refine rf_lt rfl rfl rv1 h1 ?_ ?_
  · refine y_Q hR hy ya109.1 (by decide) ?_
    refine y_Q hR hy ya118.1 (by decide) ?_
    refine y_aI hR hy ya118 yl118 rfl rv1 (fun h5 h6 => ?_)
    refine y_aI hR hy ya109 yl109 rfl h6 (fun h7 h8 => ?_)
    refine y_Q hR hy ya121.1 (by decide) ?_
    refine y_aI hR hy ya121 yl121 rfl rv1 (fun h10 h11 => ?_)
    refine y_Q hR hy ya110.1 (by decide) ?_
    refine y_aI hR hy ya110 yl110 rfl h8 (fun h13 h14 => ?_)
    refine v_c (y_gt hR hy) ?_
    refine rf_bind (f_Y_edges hy rfl h8 hR) (fun a18 z16 h => ?_)
    obtain ⟨rfl, r17⟩ := h
    refine rf_ck (fun h19 => ?_)
    refine rf_ck (fun h20 => ?_)
    refine y_sI hR hy ya121 yl121 rfl rv1 (e_add rfl (e_add rfl rfl)) h20 (fun g24 m22 hR23 => ?_)
    refine y_Q hR23 hy ya122.1 (by decide) ?_
    refine y_aI hR23 hy ya122 yl122 rfl rv1 (fun h26 h27 => ?_)
    refine y_Q hR23 hy ya111.1 (by decide) ?_
    refine y_aI hR23 hy ya111 yl111 rfl h8 (fun h29 h30 => ?_)
    refine v_c (y_gt hR23 hy) ?_
    refine rf_bind (f_Y_edges hy rfl h8 hR23) (fun a34 z32 h => ?_)
    obtain ⟨rfl, r33⟩ := h
    refine rf_ck (fun h35 => ?_)
    refine rf_ck (fun h36 => ?_)
    refine y_sI hR23 hy ya122 yl122 rfl rv1 (e_add rfl (e_add rfl rfl)) h36 (fun g40 m38 hR39 => ?_)
    refine rf_ck (fun h41 => ?_)
    exact rf_ok (by exact ⟨⟨(e_add rfl (e_n 1)), h41⟩, hR39⟩)
  · exact rf_ok (by exact hR)
noncomputable def NL_Y_lay_458 (v1 : Int) (m : YS) : Option (YS) :=
  it (fun s : Int × YS => nb_Y_lay_458 s.1 s.2) (v1, m)
theorem fL_Y_lay_458 {w y : Prop} {g : g_S} {n : NS} {m : YS} (hy : y) {xv1 : Int32} {v1 : Int} (ev1 : xv1 = Int32.ofInt v1) (rv1 : inR v1) (hR : RC w y g n m) : Rf (fun a b => RC w y a n b) (L_Y_lay_458 1838 xv1 g) (NL_Y_lay_458 v1 m) := by
  subst ev1
  unfold L_Y_lay_458 NL_Y_lay_458
  refine rf_it (I := (fun a b => RI a.1 b.1 ∧ RC w y a.2 n b.2)) (fun s t h => ?_) ⟨⟨rfl, rv1⟩, hR⟩
  exact fb_Y_lay_458 hy h.1.1 h.1.2 h.2
theorem NL_Y_lay_458_eq (v1 : Int) (m : YS) : NL_Y_lay_458 v1 m = itc (nb_Y_lay_458 v1 m) (fun s => NL_Y_lay_458 s.1 s.2) := it_eq2 (fun s : Int × YS => nb_Y_lay_458 s.1 s.2) (v1, m)
noncomputable def nk_Y_lay_388 (v1 : Int) (v2 : Int) (m : YS) : Option ((Int × YS) ⊕ (YS)) :=
  ix v2 120 <|
  ix v2 120 <|
  ix (m 109 v2) 120 <|
  ix v2 120 <|
  (N_Y_edges (m 109 v2) m).bind fun z14 =>
  ck ((m 110 (m 109 v2)) + z14) <|
  ck ((m 110 v2) + ((m 110 (m 109 v2)) + z14)) <|
  ix v2 120 <|
  st (yw m 110 v2 ((m 110 v2) + ((m 110 (m 109 v2)) + z14))) fun m20 =>
  ix v2 120 <|
  ix v2 120 <|
  ix (m20 109 v2) 120 <|
  ix v2 120 <|
  (N_Y_edges (m20 109 v2) m20).bind fun z36 =>
  ck ((m20 111 (m20 109 v2)) + z36) <|
  ck ((m20 111 v2) + ((m20 111 (m20 109 v2)) + z36)) <|
  ix v2 120 <|
  st (yw m20 111 v2 ((m20 111 v2) + ((m20 111 (m20 109 v2)) + z36))) fun m42 =>
  ck (v1 + 1) <|
  some (.inl (v1 + 1, m42))
theorem fk_Y_lay_388 {w y : Prop} {g : g_S} {n : NS} {m : YS} (hy : y) {xv1 : Int32} {v1 : Int} (ev1 : xv1 = Int32.ofInt v1) (rv1 : inR v1) {xv2 : Int32} {v2 : Int} (ev2 : xv2 = Int32.ofInt v2) (rv2 : inR v2) (hR : RC w y g n m) : Rf (RS (fun a b => RI a.1 b.1 ∧ RC w y a.2 n b.2) (fun a b => RC w y a n b)) (k_Y_lay_388 1838 xv1 xv2 g) (nk_Y_lay_388 v1 v2 m) := by
  subst ev1
  subst ev2
  unfold k_Y_lay_388 nk_Y_lay_388
  refine y_Q hR hy ya110.1 (by decide) ?_
  refine y_aI hR hy ya110 yl110 rfl rv2 (fun h2 h3 => ?_)
  refine y_Q hR hy ya110.1 (by decide) ?_
  refine y_Q hR hy ya109.1 (by decide) ?_
  refine y_aI hR hy ya109 yl109 rfl rv2 (fun h6 h7 => ?_)
  refine y_aI hR hy ya110 yl110 rfl h7 (fun h8 h9 => ?_)
  refine y_Q hR hy ya109.1 (by decide) ?_
  refine y_aI hR hy ya109 yl109 rfl rv2 (fun h11 h12 => ?_)
  refine v_c (y_gt hR hy) ?_
  refine rf_bind (f_Y_edges hy rfl h12 hR) (fun a16 z14 h => ?_)
  obtain ⟨rfl, r15⟩ := h
  refine rf_ck (fun h17 => ?_)
  refine rf_ck (fun h18 => ?_)
  refine y_sI hR hy ya110 yl110 rfl rv2 (e_add rfl (e_add rfl rfl)) h18 (fun g22 m20 hR21 => ?_)
  refine y_Q hR21 hy ya111.1 (by decide) ?_
  refine y_aI hR21 hy ya111 yl111 rfl rv2 (fun h24 h25 => ?_)
  refine y_Q hR21 hy ya111.1 (by decide) ?_
  refine y_Q hR21 hy ya109.1 (by decide) ?_
  refine y_aI hR21 hy ya109 yl109 rfl rv2 (fun h28 h29 => ?_)
  refine y_aI hR21 hy ya111 yl111 rfl h29 (fun h30 h31 => ?_)
  refine y_Q hR21 hy ya109.1 (by decide) ?_
  refine y_aI hR21 hy ya109 yl109 rfl rv2 (fun h33 h34 => ?_)
  refine v_c (y_gt hR21 hy) ?_
  refine rf_bind (f_Y_edges hy rfl h34 hR21) (fun a38 z36 h => ?_)
  obtain ⟨rfl, r37⟩ := h
  refine rf_ck (fun h39 => ?_)
  refine rf_ck (fun h40 => ?_)
  refine y_sI hR21 hy ya111 yl111 rfl rv2 (e_add rfl (e_add rfl rfl)) h40 (fun g44 m42 hR43 => ?_)
  refine rf_ck (fun h45 => ?_)
  exact rf_ok (by exact ⟨⟨(e_add rfl (e_n 1)), h45⟩, hR43⟩)
noncomputable def nb_Y_lay_355 (v1 : Int) (m : YS) : Option ((Int × YS) ⊕ (YS)) :=
  if v1 < (m 125 0) then
    ix v1 120 <|
    (N_Y_isBox (m 124 v1) m).bind fun z7 =>
    if z7 = 0 then
      ix (m 124 v1) 120 <|
      if (m 107 (m 124 v1)) = 4 then
        nk_Y_lay_388 v1 (m 124 v1) m
      else
        ck (v1 + 1) <|
        some (.inl (v1 + 1, m))
    else
      nk_Y_lay_388 v1 (m 124 v1) m
  else
    some (.inr m)
theorem fb_Y_lay_355 {w y : Prop} {g : g_S} {n : NS} {m : YS} (hy : y) {xv1 : Int32} {v1 : Int} (ev1 : xv1 = Int32.ofInt v1) (rv1 : inR v1) (hR : RC w y g n m) : Rf (RS (fun a b => RI a.1 b.1 ∧ RC w y a.2 n b.2) (fun a b => RC w y a n b)) (b_Y_lay_355 1838 xv1 g) (nb_Y_lay_355 v1 m) := by
  subst ev1
  unfold b_Y_lay_355 nb_Y_lay_355
  refine y_I hR hy yk125 yt125 (fun h1 => ?_)
  refine rf_lt rfl rfl rv1 h1 ?_ ?_
  · refine y_Q hR hy ya124.1 (by decide) ?_
    refine y_aI hR hy ya124 yl124 rfl rv1 (fun h4 h5 => ?_)
    refine v_c (y_gt hR hy) ?_
    refine rf_bind (f_Y_isBox hy rfl h5 hR) (fun a9 z7 h => ?_)
    obtain ⟨rfl, r8⟩ := h
    refine rf_eq rfl (e_n 0) (inZ.r r8) (show inR 0 by decide) ?_ ?_
    · refine y_Q hR hy ya107.1 (by decide) ?_
      refine y_aI hR hy ya107 yl107 rfl h5 (fun h12 h13 => ?_)
      refine rf_eq rfl (e_n 4) h13 (show inR 4 by decide) ?_ ?_
      · exact fk_Y_lay_388 hy rfl rv1 rfl h5 hR
      · refine rf_ck (fun h15 => ?_)
        exact rf_ok (by exact ⟨⟨(e_add rfl (e_n 1)), h15⟩, hR⟩)
    · exact fk_Y_lay_388 hy rfl rv1 rfl h5 hR
  · exact rf_ok (by exact hR)
noncomputable def NL_Y_lay_355 (v1 : Int) (m : YS) : Option (YS) :=
  it (fun s : Int × YS => nb_Y_lay_355 s.1 s.2) (v1, m)
theorem fL_Y_lay_355 {w y : Prop} {g : g_S} {n : NS} {m : YS} (hy : y) {xv1 : Int32} {v1 : Int} (ev1 : xv1 = Int32.ofInt v1) (rv1 : inR v1) (hR : RC w y g n m) : Rf (fun a b => RC w y a n b) (L_Y_lay_355 1838 xv1 g) (NL_Y_lay_355 v1 m) := by
  subst ev1
  unfold L_Y_lay_355 NL_Y_lay_355
  refine rf_it (I := (fun a b => RI a.1 b.1 ∧ RC w y a.2 n b.2)) (fun s t h => ?_) ⟨⟨rfl, rv1⟩, hR⟩
  exact fb_Y_lay_355 hy h.1.1 h.1.2 h.2
theorem NL_Y_lay_355_eq (v1 : Int) (m : YS) : NL_Y_lay_355 v1 m = itc (nb_Y_lay_355 v1 m) (fun s => NL_Y_lay_355 s.1 s.2) := it_eq2 (fun s : Int × YS => nb_Y_lay_355 s.1 s.2) (v1, m)
noncomputable def nk_Y_lay_259 (v1 : Int) (m : YS) : Option ((Int × YS) ⊕ (YS)) :=
  (N_Y_after v1 0 m).bind fun z2 =>
  some (.inl (z2, m))
theorem fk_Y_lay_259 {w y : Prop} {g : g_S} {n : NS} {m : YS} (hy : y) {xv1 : Int32} {v1 : Int} (ev1 : xv1 = Int32.ofInt v1) (rv1 : inR v1) (hR : RC w y g n m) : Rf (RS (fun a b => RI a.1 b.1 ∧ RC w y a.2 n b.2) (fun a b => RC w y a n b)) (k_Y_lay_259 1838 xv1 g) (nk_Y_lay_259 v1 m) := by
  subst ev1
  unfold k_Y_lay_259 nk_Y_lay_259
  refine v_c (y_gt hR hy) ?_
  refine rf_bind (f_Y_after hy rfl rv1 (e_n 0) (show inR 0 by decide) hR) (fun a4 z2 h => ?_)
  obtain ⟨rfl, r3⟩ := h
  exact rf_ok (by exact ⟨⟨rfl, r3⟩, hR⟩)
noncomputable def nk_Y_lay_181 (v1 : Int) (w0 : Int) (w1 : Int) (m : YS) : Option ((Int × YS) ⊕ (YS)) :=
  cz w0 <|
  ix w1 120 <|
  st (yw m 108 w1 w0) fun m3 =>
  ix v1 120 <|
  st (yw m3 116 v1 (m3 117 0)) fun m9 =>
  if v1 = 0 then
    ix 0 120 <|
    st (yw m9 112 0 (m9 106 0)) fun m16 =>
    nk_Y_lay_259 v1 m16
  else
    (N_Y_isBox v1 m9).bind fun z20 =>
    if z20 = 0 then
      ix v1 120 <|
      if (m9 107 v1) = 4 then
        (N_Y_measure v1 m9).bind fun m29 =>
        nk_Y_lay_259 v1 m29
      else
        ix v1 120 <|
        if (m9 107 v1) = 6 then
          (N_Y_split v1 m9).bind fun m37 =>
          nk_Y_lay_259 v1 m37
        else
          nk_Y_lay_259 v1 m9
    else
      (N_Y_widen v1 m9).bind fun m41 =>
      nk_Y_lay_259 v1 m41
theorem fk_Y_lay_181 {w y : Prop} {g : g_S} {n : NS} {m : YS} (hy : y) {xv1 : Int32} {v1 : Int} (ev1 : xv1 = Int32.ofInt v1) (rv1 : inR v1) {xw0 : Int32} {w0 : Int} (ew0 : xw0 = Int32.ofInt w0) (rw0 : inR w0) {xw1 : Int32} {w1 : Int} (ew1 : xw1 = Int32.ofInt w1) (rw1 : inR w1) (hR : RC w y g n m) : Rf (RS (fun a b => RI a.1 b.1 ∧ RC w y a.2 n b.2) (fun a b => RC w y a n b)) (k_Y_lay_181 1838 xv1 xw0 xw1 (yAd 108) g) (nk_Y_lay_181 v1 w0 w1 m) := by
  subst ev1
  subst ew0
  subst ew1
  unfold k_Y_lay_181 nk_Y_lay_181
  refine rf_cz (fun h2 => ?_)
  refine y_sZ hR hy ya108 yl108 rfl rw1 rfl h2 (fun g5 m3 hR4 => ?_)
  refine y_Q hR4 hy ya116.1 (by decide) ?_
  refine y_I hR4 hy yk117 yt117 (fun h7 => ?_)
  refine y_sI hR4 hy ya116 yl116 rfl rv1 rfl h7 (fun g11 m9 hR10 => ?_)
  refine rf_eq rfl (e_n 0) rv1 (show inR 0 by decide) ?_ ?_
  · refine y_Q hR10 hy ya112.1 (by decide) ?_
    refine y_I hR10 hy yk106 yt106 (fun h14 => ?_)
    refine y_sI hR10 hy ya112 yl112 (e_n 0) (show inR 0 by decide) rfl h14 (fun g18 m16 hR17 => ?_)
    exact fk_Y_lay_259 hy rfl rv1 hR17
  · refine v_c (y_gt hR10 hy) ?_
    refine rf_bind (f_Y_isBox hy rfl rv1 hR10) (fun a22 z20 h => ?_)
    obtain ⟨rfl, r21⟩ := h
    refine rf_eq rfl (e_n 0) (inZ.r r21) (show inR 0 by decide) ?_ ?_
    · refine y_Q hR10 hy ya107.1 (by decide) ?_
      refine y_aI hR10 hy ya107 yl107 rfl rv1 (fun h25 h26 => ?_)
      refine rf_eq rfl (e_n 4) h26 (show inR 4 by decide) ?_ ?_
      · refine v_c (y_gt hR10 hy) ?_
        refine rf_bind (f_Y_measure hy rfl rv1 hR10) (fun g31 m29 hR30 => ?_)
        exact fk_Y_lay_259 hy rfl rv1 hR30
      · refine y_Q hR10 hy ya107.1 (by decide) ?_
        refine y_aI hR10 hy ya107 yl107 rfl rv1 (fun h33 h34 => ?_)
        refine rf_eq rfl (e_n 6) h34 (show inR 6 by decide) ?_ ?_
        · refine v_c (y_gt hR10 hy) ?_
          refine rf_bind (f_Y_split hy rfl rv1 hR10) (fun g39 m37 hR38 => ?_)
          exact fk_Y_lay_259 hy rfl rv1 hR38
        · exact fk_Y_lay_259 hy rfl rv1 hR10
    · refine v_c (y_gt hR10 hy) ?_
      refine rf_bind (f_Y_widen hy rfl rv1 hR10) (fun g43 m41 hR42 => ?_)
      exact fk_Y_lay_259 hy rfl rv1 hR42
noncomputable def nk_Y_lay_180 (v1 : Int) (w0 : Int) (m : YS) : Option ((Int × YS) ⊕ (YS)) :=
  nk_Y_lay_181 v1 0 w0 m
theorem fk_Y_lay_180 {w y : Prop} {g : g_S} {n : NS} {m : YS} (hy : y) {xv1 : Int32} {v1 : Int} (ev1 : xv1 = Int32.ofInt v1) (rv1 : inR v1) {xw0 : Int32} {w0 : Int} (ew0 : xw0 = Int32.ofInt w0) (rw0 : inR w0) (hR : RC w y g n m) : Rf (RS (fun a b => RI a.1 b.1 ∧ RC w y a.2 n b.2) (fun a b => RC w y a n b)) (k_Y_lay_180 1838 xv1 xw0 (yAd 108) g) (nk_Y_lay_180 v1 w0 m) := by
  subst ev1
  subst ew0
  unfold k_Y_lay_180 nk_Y_lay_180
  exact fk_Y_lay_181 hy rfl rv1 (e_n 0) (show inR 0 by decide) rfl rw0 hR
noncomputable def nk_Y_lay_133 (v1 : Int) (w0 : Int) (w1 : Int) (m : YS) : Option ((Int × YS) ⊕ (YS)) :=
  ix w1 120 <|
  st (yw m 107 w1 w0) fun m2 =>
  if 0 < v1 then
    (N_Y_isBox v1 m2).bind fun z8 =>
    if z8 = 0 then
      nk_Y_lay_180 v1 v1 m2
    else
      ix v1 120 <|
      ix (m2 49 v1) 120 <|
      if (m2 107 (m2 49 v1)) = 1 then
        (N_Y_of v1 10 m2).bind fun z20 =>
        if 0 < z20 then
          nk_Y_lay_181 v1 1 v1 m2
        else
          nk_Y_lay_180 v1 v1 m2
      else
        nk_Y_lay_180 v1 v1 m2
  else
    nk_Y_lay_180 v1 v1 m2
theorem fk_Y_lay_133 {w y : Prop} {g : g_S} {n : NS} {m : YS} (hy : y) {xv1 : Int32} {v1 : Int} (ev1 : xv1 = Int32.ofInt v1) (rv1 : inR v1) {xw0 : Int32} {w0 : Int} (ew0 : xw0 = Int32.ofInt w0) (rw0 : inR w0) {xw1 : Int32} {w1 : Int} (ew1 : xw1 = Int32.ofInt w1) (rw1 : inR w1) (hR : RC w y g n m) : Rf (RS (fun a b => RI a.1 b.1 ∧ RC w y a.2 n b.2) (fun a b => RC w y a n b)) (k_Y_lay_133 1838 xv1 xw0 xw1 (yAd 107) g) (nk_Y_lay_133 v1 w0 w1 m) := by
  subst ev1
  subst ew0
  subst ew1
  unfold k_Y_lay_133 nk_Y_lay_133
  refine y_sI hR hy ya107 yl107 rfl rw1 rfl rw0 (fun g4 m2 hR3 => ?_)
  refine y_Q hR3 hy ya108.1 (by decide) ?_
  refine rf_lt (e_n 0) rfl (show inR 0 by decide) rv1 ?_ ?_
  · refine v_c (y_gt hR3 hy) ?_
    refine rf_bind (f_Y_isBox hy rfl rv1 hR3) (fun a10 z8 h => ?_)
    obtain ⟨rfl, r9⟩ := h
    refine rf_eq rfl (e_n 0) (inZ.r r9) (show inR 0 by decide) ?_ ?_
    · exact fk_Y_lay_180 hy rfl rv1 rfl rv1 hR3
    · refine y_Q hR3 hy ya107.1 (by decide) ?_
      refine y_Q hR3 hy ya49.1 (by decide) ?_
      refine y_aI hR3 hy ya49 yl49 rfl rv1 (fun h14 h15 => ?_)
      refine y_aI hR3 hy ya107 yl107 rfl h15 (fun h16 h17 => ?_)
      refine rf_eq rfl (e_n 1) h17 (show inR 1 by decide) ?_ ?_
      · refine v_c (y_gt hR3 hy) ?_
        refine rf_bind (f_Y_of hy rfl rv1 (e_n 10) (show inR 10 by decide) hR3) (fun a22 z20 h => ?_)
        obtain ⟨rfl, r21⟩ := h
        refine rf_lt (e_n 0) rfl (show inR 0 by decide) r21 ?_ ?_
        · exact fk_Y_lay_181 hy rfl rv1 (e_n 1) (show inR 1 by decide) rfl rv1 hR3
        · exact fk_Y_lay_180 hy rfl rv1 rfl rv1 hR3
      · exact fk_Y_lay_180 hy rfl rv1 rfl rv1 hR3
  · exact fk_Y_lay_180 hy rfl rv1 rfl rv1 hR3
noncomputable def nk_Y_lay_100 (v1 : Int) (w0 : Int) (w1 : Int) (m : YS) : Option ((Int × YS) ⊕ (YS)) :=
  ix w1 120 <|
  st (yw m 109 w1 w0) fun m2 =>
  if v1 = 0 then
    (N_Y_of 0 0 m2).bind fun z8 =>
    if z8 = 3 then
      nk_Y_lay_133 v1 2 v1 m2
    else
      nk_Y_lay_133 v1 1 v1 m2
  else
    (N_Y_modeOf v1 m2).bind fun z13 =>
    nk_Y_lay_133 v1 z13 v1 m2
theorem fk_Y_lay_100 {w y : Prop} {g : g_S} {n : NS} {m : YS} (hy : y) {xv1 : Int32} {v1 : Int} (ev1 : xv1 = Int32.ofInt v1) (rv1 : inR v1) {xw0 : Int32} {w0 : Int} (ew0 : xw0 = Int32.ofInt w0) (rw0 : inR w0) {xw1 : Int32} {w1 : Int} (ew1 : xw1 = Int32.ofInt w1) (rw1 : inR w1) (hR : RC w y g n m) : Rf (RS (fun a b => RI a.1 b.1 ∧ RC w y a.2 n b.2) (fun a b => RC w y a n b)) (k_Y_lay_100 1838 xv1 xw0 xw1 (yAd 109) g) (nk_Y_lay_100 v1 w0 w1 m) := by
  subst ev1
  subst ew0
  subst ew1
  unfold k_Y_lay_100 nk_Y_lay_100
  refine y_sI hR hy ya109 yl109 rfl rw1 rfl rw0 (fun g4 m2 hR3 => ?_)
  refine y_Q hR3 hy ya107.1 (by decide) ?_
  refine rf_eq rfl (e_n 0) rv1 (show inR 0 by decide) ?_ ?_
  · refine v_c (y_gt hR3 hy) ?_
    refine rf_bind (f_Y_of hy (e_n 0) (show inR 0 by decide) (e_n 0) (show inR 0 by decide) hR3) (fun a10 z8 h => ?_)
    obtain ⟨rfl, r9⟩ := h
    refine rf_eq rfl (e_n 3) r9 (show inR 3 by decide) ?_ ?_
    · exact fk_Y_lay_133 hy rfl rv1 (e_n 2) (show inR 2 by decide) rfl rv1 hR3
    · exact fk_Y_lay_133 hy rfl rv1 (e_n 1) (show inR 1 by decide) rfl rv1 hR3
  · refine v_c (y_gt hR3 hy) ?_
    refine rf_bind (f_Y_modeOf hy rfl rv1 hR3) (fun a15 z13 h => ?_)
    obtain ⟨rfl, r14⟩ := h
    exact fk_Y_lay_133 hy rfl rv1 rfl r14 rfl rv1 hR3
noncomputable def nb_Y_lay_29 (v1 : Int) (m : YS) : Option ((Int × YS) ⊕ (YS)) :=
  if v1 = (-1) then
    some (.inr m)
  else
    ix (m 125 0) 120 <|
    st (yw m 124 (m 125 0) v1) fun m5 =>
    ck ((m5 125 0) + 1) <|
    st (yw m5 125 0 ((m5 125 0) + 1)) fun m11 =>
    if v1 = 0 then
      nk_Y_lay_100 v1 (-1) v1 m11
    else
      ix v1 120 <|
      (N_Y_isBox (m11 49 v1) m11).bind fun z20 =>
      if z20 = 0 then
        ix v1 120 <|
        ix (m11 49 v1) 120 <|
        nk_Y_lay_100 v1 (m11 109 (m11 49 v1)) v1 m11
      else
        ix v1 120 <|
        nk_Y_lay_100 v1 (m11 49 v1) v1 m11
theorem fb_Y_lay_29 {w y : Prop} {g : g_S} {n : NS} {m : YS} (hy : y) {xv1 : Int32} {v1 : Int} (ev1 : xv1 = Int32.ofInt v1) (rv1 : inR v1) (hR : RC w y g n m) : Rf (RS (fun a b => RI a.1 b.1 ∧ RC w y a.2 n b.2) (fun a b => RC w y a n b)) (b_Y_lay_29 1838 xv1 g) (nb_Y_lay_29 v1 m) := by
  subst ev1
  unfold b_Y_lay_29 nb_Y_lay_29
  refine rf_eq rfl (e_m 1) rv1 (show inR (-1) by decide) ?_ ?_
  · exact rf_ok (by exact hR)
  · refine y_Q hR hy ya124.1 (by decide) ?_
    refine y_I hR hy yk125 yt125 (fun h3 => ?_)
    refine y_sI hR hy ya124 yl124 rfl h3 rfl rv1 (fun g7 m5 hR6 => ?_)
    refine y_I hR6 hy yk125 yt125 (fun h8 => ?_)
    refine rf_ck (fun h9 => ?_)
    refine y_pI hR6 hy yk125 ⟨yt125, yz125⟩ (e_add rfl (e_n 1)) h9 (fun g13 m11 hR12 => ?_)
    refine y_Q hR12 hy ya109.1 (by decide) ?_
    refine rf_eq rfl (e_n 0) rv1 (show inR 0 by decide) ?_ ?_
    · exact fk_Y_lay_100 hy rfl rv1 (e_m 1) (show inR (-1) by decide) rfl rv1 hR12
    · refine y_Q hR12 hy ya49.1 (by decide) ?_
      refine y_aI hR12 hy ya49 yl49 rfl rv1 (fun h17 h18 => ?_)
      refine v_c (y_gt hR12 hy) ?_
      refine rf_bind (f_Y_isBox hy rfl h18 hR12) (fun a22 z20 h => ?_)
      obtain ⟨rfl, r21⟩ := h
      refine rf_eq rfl (e_n 0) (inZ.r r21) (show inR 0 by decide) ?_ ?_
      · refine y_Q hR12 hy ya109.1 (by decide) ?_
        refine y_Q hR12 hy ya49.1 (by decide) ?_
        refine y_aI hR12 hy ya49 yl49 rfl rv1 (fun h26 h27 => ?_)
        refine y_aI hR12 hy ya109 yl109 rfl h27 (fun h28 h29 => ?_)
        exact fk_Y_lay_100 hy rfl rv1 rfl h29 rfl rv1 hR12
      · refine y_Q hR12 hy ya49.1 (by decide) ?_
        refine y_aI hR12 hy ya49 yl49 rfl rv1 (fun h31 h32 => ?_)
        exact fk_Y_lay_100 hy rfl rv1 rfl h32 rfl rv1 hR12
noncomputable def NL_Y_lay_29 (v1 : Int) (m : YS) : Option (YS) :=
  it (fun s : Int × YS => nb_Y_lay_29 s.1 s.2) (v1, m)
theorem fL_Y_lay_29 {w y : Prop} {g : g_S} {n : NS} {m : YS} (hy : y) {xv1 : Int32} {v1 : Int} (ev1 : xv1 = Int32.ofInt v1) (rv1 : inR v1) (hR : RC w y g n m) : Rf (fun a b => RC w y a n b) (L_Y_lay_29 1838 xv1 g) (NL_Y_lay_29 v1 m) := by
  subst ev1
  unfold L_Y_lay_29 NL_Y_lay_29
  refine rf_it (I := (fun a b => RI a.1 b.1 ∧ RC w y a.2 n b.2)) (fun s t h => ?_) ⟨⟨rfl, rv1⟩, hR⟩
  exact fb_Y_lay_29 hy h.1.1 h.1.2 h.2
theorem NL_Y_lay_29_eq (v1 : Int) (m : YS) : NL_Y_lay_29 v1 m = itc (nb_Y_lay_29 v1 m) (fun s => NL_Y_lay_29 s.1 s.2) := it_eq2 (fun s : Int × YS => nb_Y_lay_29 s.1 s.2) (v1, m)
noncomputable def N_Y_lay (m : YS) : Option (YS) :=
  if (m 126 0) = 0 then
    st (yw m 126 0 1) fun m4 =>
    (N_Y_cascade m4).bind fun m8 =>
    st (yw m8 117 0 0) fun m12 =>
    st (yw m12 125 0 0) fun m16 =>
    (NL_Y_lay_29 0 m16).bind <| fun m19 =>
    ck ((m19 125 0) - 1) <|
    (NL_Y_lay_276 ((m19 125 0) - 1) m19).bind <| fun m24 =>
    ix 0 120 <|
    st (yw m24 110 0 0) fun m29 =>
    ix 0 120 <|
    st (yw m29 111 0 0) fun m34 =>
    (NL_Y_lay_355 1 m34).bind <| fun m37 =>
    (NL_Y_lay_458 0 m37).bind <| fun m40 =>
    some m40
  else
    some m
theorem f_Y_lay {w y : Prop} {g : g_S} {n : NS} {m : YS} (hy : y) (hR : RC w y g n m) : Rf (fun a b => RC w y a n b) (M_Y_lay 1838 g) (N_Y_lay m) := by
  unfold M_Y_lay N_Y_lay
  refine y_Z hR hy yk126 yt126 yz126 (fun h1 => ?_)
  refine rf_eq rfl (e_n 0) (inZ.r h1) (show inR 0 by decide) ?_ ?_
  · refine y_pZ hR hy yk126 yt126 (e_n 1) (.inr rfl) (fun g6 m4 hR5 => ?_)
    refine v_c (y_gt hR5 hy) ?_
    refine rf_bind (f_Y_cascade hy hR5) (fun g10 m8 hR9 => ?_)
    refine y_pI hR9 hy yk117 ⟨yt117, yz117⟩ (e_n 0) (show inR 0 by decide) (fun g14 m12 hR13 => ?_)
    refine y_pI hR13 hy yk125 ⟨yt125, yz125⟩ (e_n 0) (show inR 0 by decide) (fun g18 m16 hR17 => ?_)
    refine rf_bind (fL_Y_lay_29 hy (e_n 0) (show inR 0 by decide) hR17) (fun a20 m19 h => ?_)
    have hR21 : RC w y a20 n m19 := h
    refine y_I hR21 hy yk125 yt125 (fun h22 => ?_)
    refine rf_ck (fun h23 => ?_)
    refine rf_bind (fL_Y_lay_276 hy (e_sub rfl (e_n 1)) h23 hR21) (fun a25 m24 h => ?_)
    have hR26 : RC w y a25 n m24 := h
    refine y_Q hR26 hy ya110.1 (by decide) ?_
    refine y_sI hR26 hy ya110 yl110 (e_n 0) (show inR 0 by decide) (e_n 0) (show inR 0 by decide) (fun g31 m29 hR30 => ?_)
    refine y_Q hR30 hy ya111.1 (by decide) ?_
    refine y_sI hR30 hy ya111 yl111 (e_n 0) (show inR 0 by decide) (e_n 0) (show inR 0 by decide) (fun g36 m34 hR35 => ?_)
    refine rf_bind (fL_Y_lay_355 hy (e_n 1) (show inR 1 by decide) hR35) (fun a38 m37 h => ?_)
    have hR39 : RC w y a38 n m37 := h
    refine rf_bind (fL_Y_lay_458 hy (e_n 0) (show inR 0 by decide) hR39) (fun a41 m40 h => ?_)
    have hR42 : RC w y a41 n m40 := h
    exact rf_ok (by exact hR42)
  · exact rf_ok (by exact hR)
noncomputable def nk_Y_style_46 (v2 : Int) (w0 : Int) (m : YS) : Option (Int × YS) :=
  (N_Y_of w0 v2 m).bind fun z2 =>
  some (z2, m)
theorem fk_Y_style_46 {w y : Prop} {g : g_S} {n : NS} {m : YS} (hy : y) {xv2 : Int32} {v2 : Int} (ev2 : xv2 = Int32.ofInt v2) (rv2 : inR v2) {xw0 : Int32} {w0 : Int} (ew0 : xw0 = Int32.ofInt w0) (rw0 : inR w0) (hR : RC w y g n m) : Rf (fun a b => RI a.1 b.1 ∧ RC w y a.2 n b.2) (k_Y_style_46 xv2 xw0 1838 g) (nk_Y_style_46 v2 w0 m) := by
  subst ev2
  subst ew0
  unfold k_Y_style_46 nk_Y_style_46
  refine v_c (y_gt hR hy) ?_
  refine rf_bind (f_Y_of hy rfl rw0 rfl rv2 hR) (fun a4 z2 h => ?_)
  obtain ⟨rfl, r3⟩ := h
  exact rf_ok (by exact ⟨⟨rfl, r3⟩, hR⟩)
noncomputable def N_Y_style (v1 : Int) (v2 : Int) (m : YS) : Option (Int × YS) :=
  (N_Y_there v1 m).bind fun z2 =>
  if z2 = 0 then
    some ((-1), m)
  else
    if v2 < 0 then
      some ((-1), m)
    else
      if 10 < v2 then
        some ((-1), m)
      else
        (N_Y_lay m).bind fun m12 =>
        ix v1 120 <|
        if (m12 46 v1) = 17 then
          ix v1 120 <|
          nk_Y_style_46 v2 (m12 49 v1) m12
        else
          nk_Y_style_46 v2 v1 m12
theorem f_Y_style {w y : Prop} {g : g_S} {n : NS} {m : YS} (hy : y) {xv1 : Int32} {v1 : Int} (ev1 : xv1 = Int32.ofInt v1) (rv1 : inR v1) {xv2 : Int32} {v2 : Int} (ev2 : xv2 = Int32.ofInt v2) (rv2 : inR v2) (hR : RC w y g n m) : Rf (fun a b => RI a.1 b.1 ∧ RC w y a.2 n b.2) (M_Y_style 1838 xv1 xv2 g) (N_Y_style v1 v2 m) := by
  subst ev1
  subst ev2
  unfold M_Y_style N_Y_style
  refine v_c (y_gt hR hy) ?_
  refine rf_bind (f_Y_there hy rfl rv1 hR) (fun a4 z2 h => ?_)
  obtain ⟨rfl, r3⟩ := h
  refine rf_eq rfl (e_n 0) (inZ.r r3) (show inR 0 by decide) ?_ ?_
  · exact rf_ok (by exact ⟨⟨(e_m 1), (show inR (-1) by decide)⟩, hR⟩)
  · refine rf_lt rfl (e_n 0) rv2 (show inR 0 by decide) ?_ ?_
    · exact rf_ok (by exact ⟨⟨(e_m 1), (show inR (-1) by decide)⟩, hR⟩)
    · refine rf_lt (e_n 10) rfl (show inR 10 by decide) rv2 ?_ ?_
      · exact rf_ok (by exact ⟨⟨(e_m 1), (show inR (-1) by decide)⟩, hR⟩)
      · refine v_c (y_gt hR hy) ?_
        refine rf_bind (f_Y_lay hy hR) (fun g14 m12 hR13 => ?_)
        refine y_Q hR13 hy ya46.1 (by decide) ?_
        refine y_aI hR13 hy ya46 yl46 rfl rv1 (fun h16 h17 => ?_)
        refine rf_eq rfl (e_n 17) h17 (show inR 17 by decide) ?_ ?_
        · refine y_Q hR13 hy ya49.1 (by decide) ?_
          refine y_aI hR13 hy ya49 yl49 rfl rv1 (fun h20 h21 => ?_)
          exact fk_Y_style_46 hy rfl rv2 rfl h21 hR13
        · exact fk_Y_style_46 hy rfl rv2 rfl rv1 hR13
noncomputable def N_Y_screen (v1 : Int) (m : YS) : Option (Int × YS) :=
  if v1 < 20 then
    some ((-1), m)
  else
    if 96 < v1 then
      some ((-1), m)
    else
      st (yw m 106 0 v1) fun m6 =>
      (N_Y_changed m6).bind fun m10 =>
      some (1, m10)
theorem f_Y_screen {w y : Prop} {g : g_S} {n : NS} {m : YS} (hy : y) {xv1 : Int32} {v1 : Int} (ev1 : xv1 = Int32.ofInt v1) (rv1 : inR v1) (hR : RC w y g n m) : Rf (fun a b => RI a.1 b.1 ∧ RC w y a.2 n b.2) (M_Y_screen 1838 xv1 g) (N_Y_screen v1 m) := by
  subst ev1
  unfold M_Y_screen N_Y_screen
  refine rf_lt rfl (e_n 20) rv1 (show inR 20 by decide) ?_ ?_
  · exact rf_ok (by exact ⟨⟨(e_m 1), (show inR (-1) by decide)⟩, hR⟩)
  · refine rf_lt (e_n 96) rfl (show inR 96 by decide) rv1 ?_ ?_
    · exact rf_ok (by exact ⟨⟨(e_m 1), (show inR (-1) by decide)⟩, hR⟩)
    · refine y_pI hR hy yk106 ⟨yt106, yz106⟩ rfl rv1 (fun g8 m6 hR7 => ?_)
      refine v_c (y_gt hR7 hy) ?_
      refine rf_bind (f_Y_changed hy hR7) (fun g12 m10 hR11 => ?_)
      exact rf_ok (by exact ⟨⟨(e_n 1), (show inR 1 by decide)⟩, hR11⟩)
noncomputable def nk_Y_box_47 (v1 : Int) (v2 : Int) (m : YS) : Option (Int × YS) :=
  if v2 = 0 then
    ix v1 120 <|
    some ((m 110 v1), m)
  else
    if v2 = 1 then
      ix v1 120 <|
      some ((m 111 v1), m)
    else
      if v2 = 2 then
        ix v1 120 <|
        some ((m 112 v1), m)
      else
        ix v1 120 <|
        some ((m 113 v1), m)
theorem fk_Y_box_47 {w y : Prop} {g : g_S} {n : NS} {m : YS} (hy : y) {xv1 : Int32} {v1 : Int} (ev1 : xv1 = Int32.ofInt v1) (rv1 : inR v1) {xv2 : Int32} {v2 : Int} (ev2 : xv2 = Int32.ofInt v2) (rv2 : inR v2) (hR : RC w y g n m) : Rf (fun a b => RI a.1 b.1 ∧ RC w y a.2 n b.2) (k_Y_box_47 1838 xv1 xv2 g) (nk_Y_box_47 v1 v2 m) := by
  subst ev1
  subst ev2
  unfold k_Y_box_47 nk_Y_box_47
  refine rf_eq rfl (e_n 0) rv2 (show inR 0 by decide) ?_ ?_
  · refine y_Q hR hy ya110.1 (by decide) ?_
    refine y_aI hR hy ya110 yl110 rfl rv1 (fun h3 h4 => ?_)
    exact rf_ok (by exact ⟨⟨rfl, h4⟩, hR⟩)
  · refine rf_eq rfl (e_n 1) rv2 (show inR 1 by decide) ?_ ?_
    · refine y_Q hR hy ya111.1 (by decide) ?_
      refine y_aI hR hy ya111 yl111 rfl rv1 (fun h8 h9 => ?_)
      exact rf_ok (by exact ⟨⟨rfl, h9⟩, hR⟩)
    · refine rf_eq rfl (e_n 2) rv2 (show inR 2 by decide) ?_ ?_
      · refine y_Q hR hy ya112.1 (by decide) ?_
        refine y_aI hR hy ya112 yl112 rfl rv1 (fun h13 h14 => ?_)
        exact rf_ok (by exact ⟨⟨rfl, h14⟩, hR⟩)
      · refine y_Q hR hy ya113.1 (by decide) ?_
        refine y_aI hR hy ya113 yl113 rfl rv1 (fun h17 h18 => ?_)
        exact rf_ok (by exact ⟨⟨rfl, h18⟩, hR⟩)
noncomputable def N_Y_box (v1 : Int) (v2 : Int) (m : YS) : Option (Int × YS) :=
  (N_Y_there v1 m).bind fun z2 =>
  if z2 = 0 then
    some ((-1000), m)
  else
    if v2 < 0 then
      some ((-1000), m)
    else
      if 3 < v2 then
        some ((-1000), m)
      else
        (N_Y_lay m).bind fun m12 =>
        (N_Y_isBox v1 m12).bind fun z16 =>
        if z16 = 0 then
          ix v1 120 <|
          if (m12 107 v1) = 4 then
            nk_Y_box_47 v1 v2 m12
          else
            some ((-1000), m12)
        else
          nk_Y_box_47 v1 v2 m12
theorem f_Y_box {w y : Prop} {g : g_S} {n : NS} {m : YS} (hy : y) {xv1 : Int32} {v1 : Int} (ev1 : xv1 = Int32.ofInt v1) (rv1 : inR v1) {xv2 : Int32} {v2 : Int} (ev2 : xv2 = Int32.ofInt v2) (rv2 : inR v2) (hR : RC w y g n m) : Rf (fun a b => RI a.1 b.1 ∧ RC w y a.2 n b.2) (M_Y_box 1838 xv1 xv2 g) (N_Y_box v1 v2 m) := by
  subst ev1
  subst ev2
  unfold M_Y_box N_Y_box
  refine v_c (y_gt hR hy) ?_
  refine rf_bind (f_Y_there hy rfl rv1 hR) (fun a4 z2 h => ?_)
  obtain ⟨rfl, r3⟩ := h
  refine rf_eq rfl (e_n 0) (inZ.r r3) (show inR 0 by decide) ?_ ?_
  · exact rf_ok (by exact ⟨⟨(e_m 1000), (show inR (-1000) by decide)⟩, hR⟩)
  · refine rf_lt rfl (e_n 0) rv2 (show inR 0 by decide) ?_ ?_
    · exact rf_ok (by exact ⟨⟨(e_m 1000), (show inR (-1000) by decide)⟩, hR⟩)
    · refine rf_lt (e_n 3) rfl (show inR 3 by decide) rv2 ?_ ?_
      · exact rf_ok (by exact ⟨⟨(e_m 1000), (show inR (-1000) by decide)⟩, hR⟩)
      · refine v_c (y_gt hR hy) ?_
        refine rf_bind (f_Y_lay hy hR) (fun g14 m12 hR13 => ?_)
        refine v_c (y_gt hR13 hy) ?_
        refine rf_bind (f_Y_isBox hy rfl rv1 hR13) (fun a18 z16 h => ?_)
        obtain ⟨rfl, r17⟩ := h
        refine rf_eq rfl (e_n 0) (inZ.r r17) (show inR 0 by decide) ?_ ?_
        · refine y_Q hR13 hy ya107.1 (by decide) ?_
          refine y_aI hR13 hy ya107 yl107 rfl rv1 (fun h21 h22 => ?_)
          refine rf_eq rfl (e_n 4) h22 (show inR 4 by decide) ?_ ?_
          · exact fk_Y_box_47 hy rfl rv1 rfl rv2 hR13
          · exact rf_ok (by exact ⟨⟨(e_m 1000), (show inR (-1000) by decide)⟩, hR13⟩)
        · exact fk_Y_box_47 hy rfl rv1 rfl rv2 hR13
noncomputable def N_Y_word (v1 : Int) (v2 : Int) (m : YS) : Option (Int × YS) :=
  (N_Y_lay m).bind fun m2 =>
  if v1 < 0 then
    some ((-1000), m2)
  else
    if v1 < (m2 117 0) then
      if v2 = 0 then
        ix v1 24000 <|
        some ((m2 118 v1), m2)
      else if v2 = 1 then
        ix v1 24000 <|
        some ((m2 119 v1), m2)
      else if v2 = 2 then
        ix v1 24000 <|
        some ((m2 120 v1), m2)
      else if v2 = 3 then
        ix v1 24000 <|
        some ((m2 121 v1), m2)
      else if v2 = 4 then
        ix v1 24000 <|
        some ((m2 122 v1), m2)
      else if v2 = 5 then
        ix v1 24000 <|
        some ((m2 123 v1), m2)
      else if v2 = 6 then
        ix v1 24000 <|
        ix (m2 118 v1) 120 <|
        (N_Y_of (m2 49 (m2 118 v1)) 8 m2).bind fun z41 =>
        ck (7 * z41) <|
        some (7 * z41, m2)
      else
        some ((-1000), m2)
    else
      some ((-1000), m2)
theorem f_Y_word {w y : Prop} {g : g_S} {n : NS} {m : YS} (hy : y) {xv1 : Int32} {v1 : Int} (ev1 : xv1 = Int32.ofInt v1) (rv1 : inR v1) {xv2 : Int32} {v2 : Int} (ev2 : xv2 = Int32.ofInt v2) (rv2 : inR v2) (hR : RC w y g n m) : Rf (fun a b => RI a.1 b.1 ∧ RC w y a.2 n b.2) (M_Y_word 1838 xv1 xv2 g) (N_Y_word v1 v2 m) := by
  subst ev1
  subst ev2
  unfold M_Y_word N_Y_word
  refine v_c (y_gt hR hy) ?_
  refine rf_bind (f_Y_lay hy hR) (fun g4 m2 hR3 => ?_)
  refine rf_lt rfl (e_n 0) rv1 (show inR 0 by decide) ?_ ?_
  · exact rf_ok (by exact ⟨⟨(e_m 1000), (show inR (-1000) by decide)⟩, hR3⟩)
  · refine y_I hR3 hy yk117 yt117 (fun h7 => ?_)
    refine rf_lt rfl rfl rv1 h7 ?_ ?_
    · refine rf_eq rfl (e_n 0) rv2 (show inR 0 by decide) ?_ ?_
      · refine y_Q hR3 hy ya118.1 (by decide) ?_
        refine y_aI hR3 hy ya118 yl118 rfl rv1 (fun h11 h12 => ?_)
        exact rf_ok (by exact ⟨⟨rfl, h12⟩, hR3⟩)
      refine rf_eq rfl (e_n 1) rv2 (show inR 1 by decide) ?_ ?_
      · refine y_Q hR3 hy ya119.1 (by decide) ?_
        refine y_aI hR3 hy ya119 yl119 rfl rv1 (fun h15 h16 => ?_)
        exact rf_ok (by exact ⟨⟨rfl, h16⟩, hR3⟩)
      refine rf_eq rfl (e_n 2) rv2 (show inR 2 by decide) ?_ ?_
      · refine y_Q hR3 hy ya120.1 (by decide) ?_
        refine y_aI hR3 hy ya120 yl120 rfl rv1 (fun h19 h20 => ?_)
        exact rf_ok (by exact ⟨⟨rfl, h20⟩, hR3⟩)
      refine rf_eq rfl (e_n 3) rv2 (show inR 3 by decide) ?_ ?_
      · refine y_Q hR3 hy ya121.1 (by decide) ?_
        refine y_aI hR3 hy ya121 yl121 rfl rv1 (fun h23 h24 => ?_)
        exact rf_ok (by exact ⟨⟨rfl, h24⟩, hR3⟩)
      refine rf_eq rfl (e_n 4) rv2 (show inR 4 by decide) ?_ ?_
      · refine y_Q hR3 hy ya122.1 (by decide) ?_
        refine y_aI hR3 hy ya122 yl122 rfl rv1 (fun h27 h28 => ?_)
        exact rf_ok (by exact ⟨⟨rfl, h28⟩, hR3⟩)
      refine rf_eq rfl (e_n 5) rv2 (show inR 5 by decide) ?_ ?_
      · refine y_Q hR3 hy ya123.1 (by decide) ?_
        refine y_aI hR3 hy ya123 yl123 rfl rv1 (fun h31 h32 => ?_)
        exact rf_ok (by exact ⟨⟨rfl, h32⟩, hR3⟩)
      refine rf_eq rfl (e_n 6) rv2 (show inR 6 by decide) ?_ ?_
      · refine y_Q hR3 hy ya49.1 (by decide) ?_
        refine y_Q hR3 hy ya118.1 (by decide) ?_
        refine y_aI hR3 hy ya118 yl118 rfl rv1 (fun h36 h37 => ?_)
        refine y_aI hR3 hy ya49 yl49 rfl h37 (fun h38 h39 => ?_)
        refine v_c (y_gt hR3 hy) ?_
        refine rf_bind (f_Y_of hy rfl h39 (e_n 8) (show inR 8 by decide) hR3) (fun a43 z41 h => ?_)
        obtain ⟨rfl, r42⟩ := h
        refine rf_ck (fun h44 => ?_)
        exact rf_ok (by exact ⟨⟨(e_mul (e_n 7) rfl), h44⟩, hR3⟩)
      exact rf_ok (by exact ⟨⟨(e_m 1000), (show inR (-1000) by decide)⟩, hR3⟩)
    · exact rf_ok (by exact ⟨⟨(e_m 1000), (show inR (-1000) by decide)⟩, hR3⟩)
noncomputable def N_Y_pictureHigh (m : YS) : Option (Int × YS) :=
  (N_Y_lay m).bind fun m2 =>
  ix 0 120 <|
  some (min 400 (m2 113 0), m2)
theorem f_Y_pictureHigh {w y : Prop} {g : g_S} {n : NS} {m : YS} (hy : y) (hR : RC w y g n m) : Rf (fun a b => RI a.1 b.1 ∧ RC w y a.2 n b.2) (M_Y_pictureHigh 1838 g) (N_Y_pictureHigh m) := by
  unfold M_Y_pictureHigh N_Y_pictureHigh
  refine v_c (y_gt hR hy) ?_
  refine rf_bind (f_Y_lay hy hR) (fun g4 m2 hR3 => ?_)
  refine y_Q hR3 hy ya113.1 (by decide) ?_
  refine y_aI hR3 hy ya113 yl113 (e_n 0) (show inR 0 by decide) (fun h6 h7 => ?_)
  exact rf_ok (by exact ⟨⟨(e_mn (e_n 400) rfl (show inR 400 by decide) h7), (min_r (show inR 400 by decide) h7)⟩, hR3⟩)
noncomputable def N_Y_isIn (v1 : Int) (v2 : Int) (v3 : Int) (v4 : Int) (v5 : Int) (v6 : Int) (m : YS) : Option (Int) :=
  if v1 < v3 then
    some 0
  else
    ck (v3 + v5) <|
    if v1 < (v3 + v5) then
      if v2 < v4 then
        some 0
      else
        ck (v4 + v6) <|
        if v2 < (v4 + v6) then
          some 1
        else
          some 0
    else
      some 0
theorem f_Y_isIn {w y : Prop} {g : g_S} {n : NS} {m : YS} (hy : y) {xv1 : Int32} {v1 : Int} (ev1 : xv1 = Int32.ofInt v1) (rv1 : inR v1) {xv2 : Int32} {v2 : Int} (ev2 : xv2 = Int32.ofInt v2) (rv2 : inR v2) {xv3 : Int32} {v3 : Int} (ev3 : xv3 = Int32.ofInt v3) (rv3 : inR v3) {xv4 : Int32} {v4 : Int} (ev4 : xv4 = Int32.ofInt v4) (rv4 : inR v4) {xv5 : Int32} {v5 : Int} (ev5 : xv5 = Int32.ofInt v5) (rv5 : inR v5) {xv6 : Int32} {v6 : Int} (ev6 : xv6 = Int32.ofInt v6) (rv6 : inR v6) (hR : RC w y g n m) : Rf (fun a b => RZ a b) (M_Y_isIn 1838 xv1 xv2 xv3 xv4 xv5 xv6 g) (N_Y_isIn v1 v2 v3 v4 v5 v6 m) := by
  subst ev1
  subst ev2
  subst ev3
  subst ev4
  subst ev5
  subst ev6
  unfold M_Y_isIn N_Y_isIn
  refine rf_lt rfl rfl rv1 rv3 ?_ ?_
  · exact rf_ok (by exact ⟨(e_n 0), (.inl rfl)⟩)
  · refine rf_ck (fun h3 => ?_)
    refine rf_lt rfl (e_add rfl rfl) rv1 h3 ?_ ?_
    · refine rf_lt rfl rfl rv2 rv4 ?_ ?_
      · exact rf_ok (by exact ⟨(e_n 0), (.inl rfl)⟩)
      · refine rf_ck (fun h7 => ?_)
        refine rf_lt rfl (e_add rfl rfl) rv2 h7 ?_ ?_
        · exact rf_ok (by exact ⟨(e_n 1), (.inr rfl)⟩)
        · exact rf_ok (by exact ⟨(e_n 0), (.inl rfl)⟩)
    · exact rf_ok (by exact ⟨(e_n 0), (.inl rfl)⟩)
noncomputable def N_Y_isOn (v0 : Int) (v1 : Int) (v2 : Int) (m : YS) : Option (Int) :=
  ck (v0 * 40503) <|
  ck (5 * v1) <|
  ck ((5 * v1) + v2) <|
  cd ((5 * v1) + v2) 13 <|
  sh5 (((5 * v1) + v2) % 13) <|
  if ((((v0 * 40503) / 8) / 2 ^ Int.toNat (((5 * v1) + v2) % 13)) % 2) = 1 then
    some 1
  else
    some 0
theorem f_Y_isOn {w y : Prop} {g : g_S} {n : NS} {m : YS} (hy : y) {xv0 : Int32} {v0 : Int} (ev0 : xv0 = Int32.ofInt v0) (rv0 : inR v0) {xv1 : Int32} {v1 : Int} (ev1 : xv1 = Int32.ofInt v1) (rv1 : inR v1) {xv2 : Int32} {v2 : Int} (ev2 : xv2 = Int32.ofInt v2) (rv2 : inR v2) (hR : RC w y g n m) : Rf (fun a b => RZ a b) (M_Y_isOn xv0 xv1 xv2 g) (N_Y_isOn v0 v1 v2 m) := by
  subst ev0
  subst ev1
  subst ev2
  unfold M_Y_isOn N_Y_isOn
  refine rf_ck (fun h2 => ?_)
  refine rf_ck (fun h3 => ?_)
  refine rf_ck (fun h4 => ?_)
  refine rf_rm (e_add (e_mul (e_n 5) rfl) rfl) (e_n 13) h4 (show inR 13 by decide) (fun h5 => ?_)
  refine rf_sh5 (fun h6 => ?_)
  refine rf_eq (e_and1 (e_shr (e_shr3 (e_mul rfl (e_n 40503)) h2) (q8 h2) rfl h6)) (e_n 1) m1 (show inR 1 by decide) ?_ ?_
  · exact rf_ok (by exact ⟨(e_n 1), (.inr rfl)⟩)
  · exact rf_ok (by exact ⟨(e_n 0), (.inl rfl)⟩)
noncomputable def N_Y_inks (v0 : Int) (v1 : Int) (v2 : Int) (v3 : Int) (v4 : Int) (v5 : Int) (m : YS) : Option (Int) :=
  if v4 < v2 then
    some 0
  else
    ck (v3 + v1) <|
    if v5 < (v3 + v1) then
      some 0
    else
      ck (v4 - v2) <|
      cd (v4 - v2) v1 <|
      ck (v5 - v3) <|
      ck ((v5 - v3) - v1) <|
      cd ((v5 - v3) - v1) v1 <|
      (N_Y_glyph v0 m).bind fun z12 =>
      ck (z12 - 2) <|
      if (z12 - 2) < ((v4 - v2) / v1) then
        some 0
      else
        if 4 < (((v5 - v3) - v1) / v1) then
          some 0
        else
          (N_Y_isOn v0 ((v4 - v2) / v1) (((v5 - v3) - v1) / v1) m).bind fun z21 =>
          if z21 = 0 then
            some 0
          else
            some 1
theorem f_Y_inks {w y : Prop} {g : g_S} {n : NS} {m : YS} (hy : y) {xv0 : Int32} {v0 : Int} (ev0 : xv0 = Int32.ofInt v0) (rv0 : inR v0) {xv1 : Int32} {v1 : Int} (ev1 : xv1 = Int32.ofInt v1) (rv1 : inR v1) {xv2 : Int32} {v2 : Int} (ev2 : xv2 = Int32.ofInt v2) (rv2 : inR v2) {xv3 : Int32} {v3 : Int} (ev3 : xv3 = Int32.ofInt v3) (rv3 : inR v3) {xv4 : Int32} {v4 : Int} (ev4 : xv4 = Int32.ofInt v4) (rv4 : inR v4) {xv5 : Int32} {v5 : Int} (ev5 : xv5 = Int32.ofInt v5) (rv5 : inR v5) (hR : RC w y g n m) : Rf (fun a b => RZ a b) (M_Y_inks xv0 xv1 xv2 xv3 xv4 xv5 g) (N_Y_inks v0 v1 v2 v3 v4 v5 m) := by
  subst ev0
  subst ev1
  subst ev2
  subst ev3
  subst ev4
  subst ev5
  unfold M_Y_inks N_Y_inks
  refine rf_lt rfl rfl rv4 rv2 ?_ ?_
  · exact rf_ok (by exact ⟨(e_n 0), (.inl rfl)⟩)
  · refine rf_ck (fun h3 => ?_)
    refine rf_lt rfl (e_add rfl rfl) rv5 h3 ?_ ?_
    · exact rf_ok (by exact ⟨(e_n 0), (.inl rfl)⟩)
    · refine rf_ck (fun h6 => ?_)
      refine rf_dv (e_sub rfl rfl) rfl h6 rv1 (fun h7 => ?_)
      refine rf_ck (fun h8 => ?_)
      refine rf_ck (fun h9 => ?_)
      refine rf_dv (e_sub (e_sub rfl rfl) rfl) rfl h9 rv1 (fun h10 => ?_)
      refine rf_bind (f_Y_glyph hy rfl rv0 hR) (fun a14 z12 h => ?_)
      obtain ⟨rfl, r13⟩ := h
      refine rf_ck (fun h15 => ?_)
      refine rf_lt (e_sub rfl (e_n 2)) rfl h15 h7 ?_ ?_
      · exact rf_ok (by exact ⟨(e_n 0), (.inl rfl)⟩)
      · refine rf_lt (e_n 4) rfl (show inR 4 by decide) h10 ?_ ?_
        · exact rf_ok (by exact ⟨(e_n 0), (.inl rfl)⟩)
        · refine rf_bind (f_Y_isOn hy rfl rv0 rfl h7 rfl h10 hR) (fun a23 z21 h => ?_)
          obtain ⟨rfl, r22⟩ := h
          refine rf_eq rfl (e_n 0) (inZ.r r22) (show inR 0 by decide) ?_ ?_
          · exact rf_ok (by exact ⟨(e_n 0), (.inl rfl)⟩)
          · exact rf_ok (by exact ⟨(e_n 1), (.inr rfl)⟩)
noncomputable def N_Y_letter (v1 : Int) (v2 : Int) (v3 : Int) (v4 : Int) (v5 : Int) (v6 : Int) (v7 : Int) (m : YS) : Option (YS) :=
  (N_Y_inks v1 v2 v3 v4 v5 v6 m).bind fun z2 =>
  if z2 = 0 then
    some m
  else
    (N_Y_of v7 1 m).bind fun z8 =>
    st (yw m 146 0 z8) fun m12 =>
    some m12
theorem f_Y_letter {w y : Prop} {g : g_S} {n : NS} {m : YS} (hy : y) {xv1 : Int32} {v1 : Int} (ev1 : xv1 = Int32.ofInt v1) (rv1 : inR v1) {xv2 : Int32} {v2 : Int} (ev2 : xv2 = Int32.ofInt v2) (rv2 : inR v2) {xv3 : Int32} {v3 : Int} (ev3 : xv3 = Int32.ofInt v3) (rv3 : inR v3) {xv4 : Int32} {v4 : Int} (ev4 : xv4 = Int32.ofInt v4) (rv4 : inR v4) {xv5 : Int32} {v5 : Int} (ev5 : xv5 = Int32.ofInt v5) (rv5 : inR v5) {xv6 : Int32} {v6 : Int} (ev6 : xv6 = Int32.ofInt v6) (rv6 : inR v6) {xv7 : Int32} {v7 : Int} (ev7 : xv7 = Int32.ofInt v7) (rv7 : inR v7) (hR : RC w y g n m) : Rf (fun a b => RC w y a n b) (M_Y_letter 1838 xv1 xv2 xv3 xv4 xv5 xv6 xv7 g) (N_Y_letter v1 v2 v3 v4 v5 v6 v7 m) := by
  subst ev1
  subst ev2
  subst ev3
  subst ev4
  subst ev5
  subst ev6
  subst ev7
  unfold M_Y_letter N_Y_letter
  refine rf_bind (f_Y_inks hy rfl rv1 rfl rv2 rfl rv3 rfl rv4 rfl rv5 rfl rv6 hR) (fun a4 z2 h => ?_)
  obtain ⟨rfl, r3⟩ := h
  refine rf_eq rfl (e_n 0) (inZ.r r3) (show inR 0 by decide) ?_ ?_
  · exact rf_ok (by exact hR)
  · refine v_c (y_gt hR hy) ?_
    refine rf_bind (f_Y_of hy rfl rv7 (e_n 1) (show inR 1 by decide) hR) (fun a10 z8 h => ?_)
    obtain ⟨rfl, r9⟩ := h
    refine y_pI hR hy yk146 ⟨yt146, yz146⟩ rfl r9 (fun g14 m12 hR13 => ?_)
    exact rf_ok (by exact hR13)
noncomputable def nb_Y_paintWord_64 (v1 : Int) (v2 : Int) (v3 : Int) (v4 : Int) (v5 : Int) (v6 : Int) (v7 : Int) (m : YS) : Option ((Int × Int × YS) ⊕ (YS)) :=
  ix v2 24000 <|
  if v7 < (m 120 v2) then
    ck (400 * v1) <|
    ix v2 24000 <|
    ck ((400 * v1) + (m 119 v2)) <|
    ck (((400 * v1) + (m 119 v2)) + v7) <|
    ix (((400 * v1) + (m 119 v2)) + v7) 48000 <|
    ix v2 24000 <|
    ix v1 120 <|
    (N_Y_letter (m 61 (((400 * v1) + (m 119 v2)) + v7)) v5 v6 (m 122 v2) v3 v4 (m 49 v1) m).bind fun m21 =>
    (N_Y_glyph (m 61 (((400 * v1) + (m 119 v2)) + v7)) m21).bind fun z25 =>
    ck (z25 * v5) <|
    ck (v6 + (z25 * v5)) <|
    ck (v7 + 1) <|
    some (.inl (v6 + (z25 * v5), v7 + 1, m21))
  else
    some (.inr m)
theorem fb_Y_paintWord_64 {w y : Prop} {g : g_S} {n : NS} {m : YS} (hy : y) {xv1 : Int32} {v1 : Int} (ev1 : xv1 = Int32.ofInt v1) (rv1 : inR v1) {xv2 : Int32} {v2 : Int} (ev2 : xv2 = Int32.ofInt v2) (rv2 : inR v2) {xv3 : Int32} {v3 : Int} (ev3 : xv3 = Int32.ofInt v3) (rv3 : inR v3) {xv4 : Int32} {v4 : Int} (ev4 : xv4 = Int32.ofInt v4) (rv4 : inR v4) {xv5 : Int32} {v5 : Int} (ev5 : xv5 = Int32.ofInt v5) (rv5 : inR v5) {xv6 : Int32} {v6 : Int} (ev6 : xv6 = Int32.ofInt v6) (rv6 : inR v6) {xv7 : Int32} {v7 : Int} (ev7 : xv7 = Int32.ofInt v7) (rv7 : inR v7) (hR : RC w y g n m) : Rf (RS (fun a b => RI a.1 b.1 ∧ RI a.2.1 b.2.1 ∧ RC w y a.2.2 n b.2.2) (fun a b => RC w y a n b)) (b_Y_paintWord_64 1838 xv1 xv2 xv3 xv4 xv5 xv6 xv7 g) (nb_Y_paintWord_64 v1 v2 v3 v4 v5 v6 v7 m) := by
  subst ev1
  subst ev2
  subst ev3
  subst ev4
  subst ev5
  subst ev6
  subst ev7
  unfold b_Y_paintWord_64 nb_Y_paintWord_64
  refine y_Q hR hy ya120.1 (by decide) ?_
  refine y_aI hR hy ya120 yl120 rfl rv2 (fun h2 h3 => ?_)
  refine rf_lt rfl rfl rv7 h3 ?_ ?_
  · refine y_Q hR hy ya61.1 (by decide) ?_
    refine rf_ck (fun h6 => ?_)
    refine y_Q hR hy ya119.1 (by decide) ?_
    refine y_aI hR hy ya119 yl119 rfl rv2 (fun h8 h9 => ?_)
    refine rf_ck (fun h10 => ?_)
    refine rf_ck (fun h11 => ?_)
    refine y_aB hR hy ya61 yl61 (e_add (e_add (e_mul (e_n 400) rfl) rfl) rfl) h11 (fun h12 h13 => ?_)
    refine y_Q hR hy ya122.1 (by decide) ?_
    refine y_aI hR hy ya122 yl122 rfl rv2 (fun h15 h16 => ?_)
    refine y_Q hR hy ya49.1 (by decide) ?_
    refine y_aI hR hy ya49 yl49 rfl rv1 (fun h18 h19 => ?_)
    refine v_c (y_gt hR hy) ?_
    refine rf_bind (f_Y_letter hy rfl (inB.r h13) rfl rv5 rfl rv6 rfl h16 rfl rv3 rfl rv4 rfl h19 hR) (fun g23 m21 hR22 => ?_)
    refine rf_bind (f_Y_glyph hy rfl (inB.r h13) hR22) (fun a27 z25 h => ?_)
    obtain ⟨rfl, r26⟩ := h
    refine rf_ck (fun h28 => ?_)
    refine rf_ck (fun h29 => ?_)
    refine rf_ck (fun h30 => ?_)
    exact rf_ok (by exact ⟨⟨(e_add rfl (e_mul rfl rfl)), h29⟩, ⟨(e_add rfl (e_n 1)), h30⟩, hR22⟩)
  · exact rf_ok (by exact hR)
noncomputable def NL_Y_paintWord_64 (v1 : Int) (v2 : Int) (v3 : Int) (v4 : Int) (v5 : Int) (v6 : Int) (v7 : Int) (m : YS) : Option (YS) :=
  it (fun s : Int × Int × YS => nb_Y_paintWord_64 v1 v2 v3 v4 v5 s.1 s.2.1 s.2.2) (v6, v7, m)
theorem fL_Y_paintWord_64 {w y : Prop} {g : g_S} {n : NS} {m : YS} (hy : y) {xv1 : Int32} {v1 : Int} (ev1 : xv1 = Int32.ofInt v1) (rv1 : inR v1) {xv2 : Int32} {v2 : Int} (ev2 : xv2 = Int32.ofInt v2) (rv2 : inR v2) {xv3 : Int32} {v3 : Int} (ev3 : xv3 = Int32.ofInt v3) (rv3 : inR v3) {xv4 : Int32} {v4 : Int} (ev4 : xv4 = Int32.ofInt v4) (rv4 : inR v4) {xv5 : Int32} {v5 : Int} (ev5 : xv5 = Int32.ofInt v5) (rv5 : inR v5) {xv6 : Int32} {v6 : Int} (ev6 : xv6 = Int32.ofInt v6) (rv6 : inR v6) {xv7 : Int32} {v7 : Int} (ev7 : xv7 = Int32.ofInt v7) (rv7 : inR v7) (hR : RC w y g n m) : Rf (fun a b => RC w y a n b) (L_Y_paintWord_64 1838 xv1 xv2 xv3 xv4 xv5 xv6 xv7 g) (NL_Y_paintWord_64 v1 v2 v3 v4 v5 v6 v7 m) := by
  subst ev1
  subst ev2
  subst ev3
  subst ev4
  subst ev5
  subst ev6
  subst ev7
  unfold L_Y_paintWord_64 NL_Y_paintWord_64
  refine rf_it (I := (fun a b => RI a.1 b.1 ∧ RI a.2.1 b.2.1 ∧ RC w y a.2.2 n b.2.2)) (fun s t h => ?_) ⟨⟨rfl, rv6⟩, ⟨rfl, rv7⟩, hR⟩
  exact fb_Y_paintWord_64 hy rfl rv1 rfl rv2 rfl rv3 rfl rv4 rfl rv5 h.1.1 h.1.2 h.2.1.1 h.2.1.2 h.2.2
theorem NL_Y_paintWord_64_eq (v1 : Int) (v2 : Int) (v3 : Int) (v4 : Int) (v5 : Int) (v6 : Int) (v7 : Int) (m : YS) : NL_Y_paintWord_64 v1 v2 v3 v4 v5 v6 v7 m = itc (nb_Y_paintWord_64 v1 v2 v3 v4 v5 v6 v7 m) (fun s => NL_Y_paintWord_64 v1 v2 v3 v4 v5 s.1 s.2.1 s.2.2) := it_eq2 (fun s : Int × Int × YS => nb_Y_paintWord_64 v1 v2 v3 v4 v5 s.1 s.2.1 s.2.2) (v6, v7, m)
noncomputable def N_Y_paintWord (v1 : Int) (v2 : Int) (v3 : Int) (v4 : Int) (m : YS) : Option (YS) :=
  ix v1 120 <|
  (N_Y_of (m 49 v1) 8 m).bind fun z5 =>
  ix v2 24000 <|
  ix v2 24000 <|
  ix v2 24000 <|
  ck (7 * z5) <|
  (N_Y_isIn v3 v4 (m 121 v2) (m 122 v2) (m 123 v2) (7 * z5) m).bind fun z19 =>
  if z19 = 0 then
    some m
  else
    st (yw m 147 0 v1) fun m25 =>
    ix v2 24000 <|
    (NL_Y_paintWord_64 v1 v2 v3 v4 z5 (m25 121 v2) 0 m25).bind <| fun m31 =>
    some m31
theorem f_Y_paintWord {w y : Prop} {g : g_S} {n : NS} {m : YS} (hy : y) {xv1 : Int32} {v1 : Int} (ev1 : xv1 = Int32.ofInt v1) (rv1 : inR v1) {xv2 : Int32} {v2 : Int} (ev2 : xv2 = Int32.ofInt v2) (rv2 : inR v2) {xv3 : Int32} {v3 : Int} (ev3 : xv3 = Int32.ofInt v3) (rv3 : inR v3) {xv4 : Int32} {v4 : Int} (ev4 : xv4 = Int32.ofInt v4) (rv4 : inR v4) (hR : RC w y g n m) : Rf (fun a b => RC w y a n b) (M_Y_paintWord 1838 xv1 xv2 xv3 xv4 g) (N_Y_paintWord v1 v2 v3 v4 m) := by
  subst ev1
  subst ev2
  subst ev3
  subst ev4
  unfold M_Y_paintWord N_Y_paintWord
  refine y_Q hR hy ya49.1 (by decide) ?_
  refine y_aI hR hy ya49 yl49 rfl rv1 (fun h2 h3 => ?_)
  refine v_c (y_gt hR hy) ?_
  refine rf_bind (f_Y_of hy rfl h3 (e_n 8) (show inR 8 by decide) hR) (fun a7 z5 h => ?_)
  obtain ⟨rfl, r6⟩ := h
  refine y_Q hR hy ya121.1 (by decide) ?_
  refine y_aI hR hy ya121 yl121 rfl rv2 (fun h9 h10 => ?_)
  refine y_Q hR hy ya122.1 (by decide) ?_
  refine y_aI hR hy ya122 yl122 rfl rv2 (fun h12 h13 => ?_)
  refine y_Q hR hy ya123.1 (by decide) ?_
  refine y_aI hR hy ya123 yl123 rfl rv2 (fun h15 h16 => ?_)
  refine rf_ck (fun h17 => ?_)
  refine v_c (y_gt hR hy) ?_
  refine rf_bind (f_Y_isIn hy rfl rv3 rfl rv4 rfl h10 rfl h13 rfl h16 (e_mul (e_n 7) rfl) h17 hR) (fun a21 z19 h => ?_)
  obtain ⟨rfl, r20⟩ := h
  refine rf_eq rfl (e_n 0) (inZ.r r20) (show inR 0 by decide) ?_ ?_
  · exact rf_ok (by exact hR)
  · refine y_pI hR hy yk147 ⟨yt147, yz147⟩ rfl rv1 (fun g27 m25 hR26 => ?_)
    refine y_Q hR26 hy ya121.1 (by decide) ?_
    refine y_aI hR26 hy ya121 yl121 rfl rv2 (fun h29 h30 => ?_)
    refine rf_bind (fL_Y_paintWord_64 hy rfl rv1 rfl rv2 rfl rv3 rfl rv4 rfl r6 rfl h30 (e_n 0) (show inR 0 by decide) hR26) (fun a32 m31 h => ?_)
    have hR33 : RC w y a32 n m31 := h
    exact rf_ok (by exact hR33)
noncomputable def nk_Y_paintBox_94 (v1 : Int) (m : YS) : Option (YS) :=
  (N_Y_of v1 1 m).bind fun z2 =>
  st (yw m 146 0 z2) fun m6 =>
  some m6
theorem fk_Y_paintBox_94 {w y : Prop} {g : g_S} {n : NS} {m : YS} (hy : y) {xv1 : Int32} {v1 : Int} (ev1 : xv1 = Int32.ofInt v1) (rv1 : inR v1) (hR : RC w y g n m) : Rf (fun a b => RC w y a n b) (k_Y_paintBox_94 1838 xv1 g) (nk_Y_paintBox_94 v1 m) := by
  subst ev1
  unfold k_Y_paintBox_94 nk_Y_paintBox_94
  refine v_c (y_gt hR hy) ?_
  refine rf_bind (f_Y_of hy rfl rv1 (e_n 1) (show inR 1 by decide) hR) (fun a4 z2 h => ?_)
  obtain ⟨rfl, r3⟩ := h
  refine y_pI hR hy yk146 ⟨yt146, yz146⟩ rfl r3 (fun g8 m6 hR7 => ?_)
  exact rf_ok (by exact hR7)
noncomputable def nk_Y_paintBox_28 (v1 : Int) (v2 : Int) (v3 : Int) (v4 : Int) (m : YS) : Option (YS) :=
  ix v1 120 <|
  ck ((m 110 v1) + v4) <|
  if v2 < ((m 110 v1) + v4) then
    nk_Y_paintBox_94 v1 m
  else
    ix v1 120 <|
    ix v1 120 <|
    ck ((m 110 v1) + (m 112 v1)) <|
    ck (((m 110 v1) + (m 112 v1)) - v4) <|
    if v2 < (((m 110 v1) + (m 112 v1)) - v4) then
      ix v1 120 <|
      ck ((m 111 v1) + v4) <|
      if v3 < ((m 111 v1) + v4) then
        nk_Y_paintBox_94 v1 m
      else
        ix v1 120 <|
        ix v1 120 <|
        ck ((m 111 v1) + (m 113 v1)) <|
        ck (((m 111 v1) + (m 113 v1)) - v4) <|
        if v3 < (((m 111 v1) + (m 113 v1)) - v4) then
          some m
        else
          nk_Y_paintBox_94 v1 m
    else
      nk_Y_paintBox_94 v1 m
theorem fk_Y_paintBox_28 {w y : Prop} {g : g_S} {n : NS} {m : YS} (hy : y) {xv1 : Int32} {v1 : Int} (ev1 : xv1 = Int32.ofInt v1) (rv1 : inR v1) {xv2 : Int32} {v2 : Int} (ev2 : xv2 = Int32.ofInt v2) (rv2 : inR v2) {xv3 : Int32} {v3 : Int} (ev3 : xv3 = Int32.ofInt v3) (rv3 : inR v3) {xv4 : Int32} {v4 : Int} (ev4 : xv4 = Int32.ofInt v4) (rv4 : inR v4) (hR : RC w y g n m) : Rf (fun a b => RC w y a n b) (k_Y_paintBox_28 1838 xv1 xv2 xv3 xv4 g) (nk_Y_paintBox_28 v1 v2 v3 v4 m) := by
  subst ev1
  subst ev2
  subst ev3
  subst ev4
  unfold k_Y_paintBox_28 nk_Y_paintBox_28
  refine y_Q hR hy ya110.1 (by decide) ?_
  refine y_aI hR hy ya110 yl110 rfl rv1 (fun h2 h3 => ?_)
  refine rf_ck (fun h4 => ?_)
  refine rf_lt rfl (e_add rfl rfl) rv2 h4 ?_ ?_
  · exact fk_Y_paintBox_94 hy rfl rv1 hR
  · refine y_Q hR hy ya110.1 (by decide) ?_
    refine y_aI hR hy ya110 yl110 rfl rv1 (fun h7 h8 => ?_)
    refine y_Q hR hy ya112.1 (by decide) ?_
    refine y_aI hR hy ya112 yl112 rfl rv1 (fun h10 h11 => ?_)
    refine rf_ck (fun h12 => ?_)
    refine rf_ck (fun h13 => ?_)
    refine rf_lt rfl (e_sub (e_add rfl rfl) rfl) rv2 h13 ?_ ?_
    · refine y_Q hR hy ya111.1 (by decide) ?_
      refine y_aI hR hy ya111 yl111 rfl rv1 (fun h16 h17 => ?_)
      refine rf_ck (fun h18 => ?_)
      refine rf_lt rfl (e_add rfl rfl) rv3 h18 ?_ ?_
      · exact fk_Y_paintBox_94 hy rfl rv1 hR
      · refine y_Q hR hy ya111.1 (by decide) ?_
        refine y_aI hR hy ya111 yl111 rfl rv1 (fun h21 h22 => ?_)
        refine y_Q hR hy ya113.1 (by decide) ?_
        refine y_aI hR hy ya113 yl113 rfl rv1 (fun h24 h25 => ?_)
        refine rf_ck (fun h26 => ?_)
        refine rf_ck (fun h27 => ?_)
        refine rf_lt rfl (e_sub (e_add rfl rfl) rfl) rv3 h27 ?_ ?_
        · exact rf_ok (by exact hR)
        · exact fk_Y_paintBox_94 hy rfl rv1 hR
    · exact fk_Y_paintBox_94 hy rfl rv1 hR
noncomputable def N_Y_paintBox (v1 : Int) (v2 : Int) (v3 : Int) (m : YS) : Option (YS) :=
  (N_Y_of v1 5 m).bind fun z2 =>
  (N_Y_of v1 2 m).bind fun z6 =>
  if z6 = (-1) then
    nk_Y_paintBox_28 v1 v2 v3 z2 m
  else
    (N_Y_of v1 2 m).bind fun z11 =>
    st (yw m 146 0 z11) fun m15 =>
    nk_Y_paintBox_28 v1 v2 v3 z2 m15
theorem f_Y_paintBox {w y : Prop} {g : g_S} {n : NS} {m : YS} (hy : y) {xv1 : Int32} {v1 : Int} (ev1 : xv1 = Int32.ofInt v1) (rv1 : inR v1) {xv2 : Int32} {v2 : Int} (ev2 : xv2 = Int32.ofInt v2) (rv2 : inR v2) {xv3 : Int32} {v3 : Int} (ev3 : xv3 = Int32.ofInt v3) (rv3 : inR v3) (hR : RC w y g n m) : Rf (fun a b => RC w y a n b) (M_Y_paintBox 1838 xv1 xv2 xv3 g) (N_Y_paintBox v1 v2 v3 m) := by
  subst ev1
  subst ev2
  subst ev3
  unfold M_Y_paintBox N_Y_paintBox
  refine v_c (y_gt hR hy) ?_
  refine rf_bind (f_Y_of hy rfl rv1 (e_n 5) (show inR 5 by decide) hR) (fun a4 z2 h => ?_)
  obtain ⟨rfl, r3⟩ := h
  refine v_c (y_gt hR hy) ?_
  refine rf_bind (f_Y_of hy rfl rv1 (e_n 2) (show inR 2 by decide) hR) (fun a8 z6 h => ?_)
  obtain ⟨rfl, r7⟩ := h
  refine rf_eq rfl (e_m 1) r7 (show inR (-1) by decide) ?_ ?_
  · exact fk_Y_paintBox_28 hy rfl rv1 rfl rv2 rfl rv3 rfl r3 hR
  · refine v_c (y_gt hR hy) ?_
    refine rf_bind (f_Y_of hy rfl rv1 (e_n 2) (show inR 2 by decide) hR) (fun a13 z11 h => ?_)
    obtain ⟨rfl, r12⟩ := h
    refine y_pI hR hy yk146 ⟨yt146, yz146⟩ rfl r12 (fun g17 m15 hR16 => ?_)
    exact fk_Y_paintBox_28 hy rfl rv1 rfl rv2 rfl rv3 rfl r3 hR16
noncomputable def nk_Y_paintInput_204 (v1 : Int) (v2 : Int) (v3 : Int) (v4 : Int) (v5 : Int) (v6 : Int) (v7 : Int) (v9 : Int) (m : YS) : Option ((Int × Int × YS) ⊕ ((YS) ⊕ (YS))) :=
  ck (v6 + v9) <|
  ck (v7 + 1) <|
  some (.inl (v6 + v9, v7 + 1, m))
theorem fk_Y_paintInput_204 {w y : Prop} {g : g_S} {n : NS} {m : YS} (hy : y) {xv1 : Int32} {v1 : Int} (ev1 : xv1 = Int32.ofInt v1) (rv1 : inR v1) {xv2 : Int32} {v2 : Int} (ev2 : xv2 = Int32.ofInt v2) (rv2 : inR v2) {xv3 : Int32} {v3 : Int} (ev3 : xv3 = Int32.ofInt v3) (rv3 : inR v3) {xv4 : Int32} {v4 : Int} (ev4 : xv4 = Int32.ofInt v4) (rv4 : inR v4) {xv5 : Int32} {v5 : Int} (ev5 : xv5 = Int32.ofInt v5) (rv5 : inR v5) {xv6 : Int32} {v6 : Int} (ev6 : xv6 = Int32.ofInt v6) (rv6 : inR v6) {xv7 : Int32} {v7 : Int} (ev7 : xv7 = Int32.ofInt v7) (rv7 : inR v7) {xv9 : Int32} {v9 : Int} (ev9 : xv9 = Int32.ofInt v9) (rv9 : inR v9) (hR : RC w y g n m) : Rf (RS (fun a b => RI a.1 b.1 ∧ RI a.2.1 b.2.1 ∧ RC w y a.2.2 n b.2.2) (RS (fun a b => RC w y a n b) (fun a b => RC w y a n b))) (k_Y_paintInput_204 1838 xv1 xv2 xv3 xv4 xv5 xv6 xv7 xv9 g) (nk_Y_paintInput_204 v1 v2 v3 v4 v5 v6 v7 v9 m) := by
  subst ev1
  subst ev2
  subst ev3
  subst ev4
  subst ev5
  subst ev6
  subst ev7
  subst ev9
  unfold k_Y_paintInput_204 nk_Y_paintInput_204
  refine rf_ck (fun h1 => ?_)
  refine rf_ck (fun h2 => ?_)
  exact rf_ok (by exact ⟨⟨(e_add rfl rfl), h1⟩, ⟨(e_add rfl (e_n 1)), h2⟩, hR⟩)
noncomputable def nk_Y_paintInput_147 (v1 : Int) (v2 : Int) (v3 : Int) (v4 : Int) (v5 : Int) (v6 : Int) (v7 : Int) (v8 : Int) (w0 : Int) (m : YS) : Option ((Int × Int × YS) ⊕ ((YS) ⊕ (YS))) :=
  ck (v6 + w0) <|
  ix v1 120 <|
  ix v1 120 <|
  ck ((m 110 v1) + (m 112 v1)) <|
  ck (((m 110 v1) + (m 112 v1)) - v4) <|
  if (((m 110 v1) + (m 112 v1)) - v4) < (v6 + w0) then
    some (.inr (.inl m))
  else
    (N_Y_isBlank v8 m).bind fun z12 =>
    if z12 = 0 then
      ix v1 120 <|
      ck ((m 111 v1) + v4) <|
      (N_Y_letter v8 v5 v6 ((m 111 v1) + v4) v2 v3 v1 m).bind fun m21 =>
      nk_Y_paintInput_204 v1 v2 v3 v4 v5 v6 v7 w0 m21
    else
      nk_Y_paintInput_204 v1 v2 v3 v4 v5 v6 v7 w0 m
theorem fk_Y_paintInput_147 {w y : Prop} {g : g_S} {n : NS} {m : YS} (hy : y) {xv1 : Int32} {v1 : Int} (ev1 : xv1 = Int32.ofInt v1) (rv1 : inR v1) {xv2 : Int32} {v2 : Int} (ev2 : xv2 = Int32.ofInt v2) (rv2 : inR v2) {xv3 : Int32} {v3 : Int} (ev3 : xv3 = Int32.ofInt v3) (rv3 : inR v3) {xv4 : Int32} {v4 : Int} (ev4 : xv4 = Int32.ofInt v4) (rv4 : inR v4) {xv5 : Int32} {v5 : Int} (ev5 : xv5 = Int32.ofInt v5) (rv5 : inR v5) {xv6 : Int32} {v6 : Int} (ev6 : xv6 = Int32.ofInt v6) (rv6 : inR v6) {xv7 : Int32} {v7 : Int} (ev7 : xv7 = Int32.ofInt v7) (rv7 : inR v7) {xv8 : Int32} {v8 : Int} (ev8 : xv8 = Int32.ofInt v8) (rv8 : inR v8) {xw0 : Int32} {w0 : Int} (ew0 : xw0 = Int32.ofInt w0) (rw0 : inR w0) (hR : RC w y g n m) : Rf (RS (fun a b => RI a.1 b.1 ∧ RI a.2.1 b.2.1 ∧ RC w y a.2.2 n b.2.2) (RS (fun a b => RC w y a n b) (fun a b => RC w y a n b))) (k_Y_paintInput_147 1838 xv1 xv2 xv3 xv4 xv5 xv6 xv7 xv8 xw0 g) (nk_Y_paintInput_147 v1 v2 v3 v4 v5 v6 v7 v8 w0 m) := by
  subst ev1
  subst ev2
  subst ev3
  subst ev4
  subst ev5
  subst ev6
  subst ev7
  subst ev8
  subst ew0
  unfold k_Y_paintInput_147 nk_Y_paintInput_147
  refine rf_ck (fun h1 => ?_)
  refine y_Q hR hy ya110.1 (by decide) ?_
  refine y_aI hR hy ya110 yl110 rfl rv1 (fun h3 h4 => ?_)
  refine y_Q hR hy ya112.1 (by decide) ?_
  refine y_aI hR hy ya112 yl112 rfl rv1 (fun h6 h7 => ?_)
  refine rf_ck (fun h8 => ?_)
  refine rf_ck (fun h9 => ?_)
  refine rf_lt (e_sub (e_add rfl rfl) rfl) (e_add rfl rfl) h9 h1 ?_ ?_
  · exact rf_ok (by exact hR)
  · refine rf_bind (f_Y_isBlank hy rfl rv8 hR) (fun a14 z12 h => ?_)
    obtain ⟨rfl, r13⟩ := h
    refine rf_eq rfl (e_n 0) (inZ.r r13) (show inR 0 by decide) ?_ ?_
    · refine y_Q hR hy ya111.1 (by decide) ?_
      refine y_aI hR hy ya111 yl111 rfl rv1 (fun h17 h18 => ?_)
      refine rf_ck (fun h19 => ?_)
      refine v_c (y_gt hR hy) ?_
      refine rf_bind (f_Y_letter hy rfl rv8 rfl rv5 rfl rv6 (e_add rfl rfl) h19 rfl rv2 rfl rv3 rfl rv1 hR) (fun g23 m21 hR22 => ?_)
      exact fk_Y_paintInput_204 hy rfl rv1 rfl rv2 rfl rv3 rfl rv4 rfl rv5 rfl rv6 rfl rv7 rfl rw0 hR22
    · exact fk_Y_paintInput_204 hy rfl rv1 rfl rv2 rfl rv3 rfl rv4 rfl rv5 rfl rv6 rfl rv7 rfl rw0 hR
noncomputable def nb_Y_paintInput_99 (v1 : Int) (v2 : Int) (v3 : Int) (v4 : Int) (v5 : Int) (v6 : Int) (v7 : Int) (m : YS) : Option ((Int × Int × YS) ⊕ ((YS) ⊕ (YS))) :=
  ix v1 120 <|
  if v7 < (m 65 v1) then
    ck (24 * v1) <|
    ck ((24 * v1) + v7) <|
    ix ((24 * v1) + v7) 2880 <|
    (N_Y_isBlank (m 64 ((24 * v1) + v7)) m).bind fun z11 =>
    if z11 = 0 then
      (N_Y_glyph (m 64 ((24 * v1) + v7)) m).bind fun z16 =>
      ck (z16 * v5) <|
      nk_Y_paintInput_147 v1 v2 v3 v4 v5 v6 v7 (m 64 ((24 * v1) + v7)) (z16 * v5) m
    else
      ck (3 * v5) <|
      nk_Y_paintInput_147 v1 v2 v3 v4 v5 v6 v7 (m 64 ((24 * v1) + v7)) (3 * v5) m
  else
    some (.inr (.inr m))
theorem fb_Y_paintInput_99 {w y : Prop} {g : g_S} {n : NS} {m : YS} (hy : y) {xv1 : Int32} {v1 : Int} (ev1 : xv1 = Int32.ofInt v1) (rv1 : inR v1) {xv2 : Int32} {v2 : Int} (ev2 : xv2 = Int32.ofInt v2) (rv2 : inR v2) {xv3 : Int32} {v3 : Int} (ev3 : xv3 = Int32.ofInt v3) (rv3 : inR v3) {xv4 : Int32} {v4 : Int} (ev4 : xv4 = Int32.ofInt v4) (rv4 : inR v4) {xv5 : Int32} {v5 : Int} (ev5 : xv5 = Int32.ofInt v5) (rv5 : inR v5) {xv6 : Int32} {v6 : Int} (ev6 : xv6 = Int32.ofInt v6) (rv6 : inR v6) {xv7 : Int32} {v7 : Int} (ev7 : xv7 = Int32.ofInt v7) (rv7 : inR v7) (hR : RC w y g n m) : Rf (RS (fun a b => RI a.1 b.1 ∧ RI a.2.1 b.2.1 ∧ RC w y a.2.2 n b.2.2) (RS (fun a b => RC w y a n b) (fun a b => RC w y a n b))) (b_Y_paintInput_99 1838 xv1 xv2 xv3 xv4 xv5 xv6 xv7 g) (nb_Y_paintInput_99 v1 v2 v3 v4 v5 v6 v7 m) := by
  subst ev1
  subst ev2
  subst ev3
  subst ev4
  subst ev5
  subst ev6
  subst ev7
  unfold b_Y_paintInput_99 nb_Y_paintInput_99
  refine y_Q hR hy ya65.1 (by decide) ?_
  refine y_aI hR hy ya65 yl65 rfl rv1 (fun h2 h3 => ?_)
  refine rf_lt rfl rfl rv7 h3 ?_ ?_
  · refine y_Q hR hy ya64.1 (by decide) ?_
    refine rf_ck (fun h6 => ?_)
    refine rf_ck (fun h7 => ?_)
    refine y_aB hR hy ya64 yl64 (e_add (e_mul (e_n 24) rfl) rfl) h7 (fun h8 h9 => ?_)
    refine rf_bind (f_Y_isBlank hy rfl (inB.r h9) hR) (fun a13 z11 h => ?_)
    obtain ⟨rfl, r12⟩ := h
    refine rf_eq rfl (e_n 0) (inZ.r r12) (show inR 0 by decide) ?_ ?_
    · refine rf_bind (f_Y_glyph hy rfl (inB.r h9) hR) (fun a18 z16 h => ?_)
      obtain ⟨rfl, r17⟩ := h
      refine rf_ck (fun h19 => ?_)
      exact fk_Y_paintInput_147 hy rfl rv1 rfl rv2 rfl rv3 rfl rv4 rfl rv5 rfl rv6 rfl rv7 rfl (inB.r h9) (e_mul rfl rfl) h19 hR
    · refine rf_ck (fun h20 => ?_)
      exact fk_Y_paintInput_147 hy rfl rv1 rfl rv2 rfl rv3 rfl rv4 rfl rv5 rfl rv6 rfl rv7 rfl (inB.r h9) (e_mul (e_n 3) rfl) h20 hR
  · exact rf_ok (by exact hR)
noncomputable def NL_Y_paintInput_99 (v1 : Int) (v2 : Int) (v3 : Int) (v4 : Int) (v5 : Int) (v6 : Int) (v7 : Int) (m : YS) : Option ((YS) ⊕ (YS)) :=
  it (fun s : Int × Int × YS => nb_Y_paintInput_99 v1 v2 v3 v4 v5 s.1 s.2.1 s.2.2) (v6, v7, m)
theorem fL_Y_paintInput_99 {w y : Prop} {g : g_S} {n : NS} {m : YS} (hy : y) {xv1 : Int32} {v1 : Int} (ev1 : xv1 = Int32.ofInt v1) (rv1 : inR v1) {xv2 : Int32} {v2 : Int} (ev2 : xv2 = Int32.ofInt v2) (rv2 : inR v2) {xv3 : Int32} {v3 : Int} (ev3 : xv3 = Int32.ofInt v3) (rv3 : inR v3) {xv4 : Int32} {v4 : Int} (ev4 : xv4 = Int32.ofInt v4) (rv4 : inR v4) {xv5 : Int32} {v5 : Int} (ev5 : xv5 = Int32.ofInt v5) (rv5 : inR v5) {xv6 : Int32} {v6 : Int} (ev6 : xv6 = Int32.ofInt v6) (rv6 : inR v6) {xv7 : Int32} {v7 : Int} (ev7 : xv7 = Int32.ofInt v7) (rv7 : inR v7) (hR : RC w y g n m) : Rf (RS (fun a b => RC w y a n b) (fun a b => RC w y a n b)) (L_Y_paintInput_99 1838 xv1 xv2 xv3 xv4 xv5 xv6 xv7 g) (NL_Y_paintInput_99 v1 v2 v3 v4 v5 v6 v7 m) := by
  subst ev1
  subst ev2
  subst ev3
  subst ev4
  subst ev5
  subst ev6
  subst ev7
  unfold L_Y_paintInput_99 NL_Y_paintInput_99
  refine rf_it (I := (fun a b => RI a.1 b.1 ∧ RI a.2.1 b.2.1 ∧ RC w y a.2.2 n b.2.2)) (fun s t h => ?_) ⟨⟨rfl, rv6⟩, ⟨rfl, rv7⟩, hR⟩
  exact fb_Y_paintInput_99 hy rfl rv1 rfl rv2 rfl rv3 rfl rv4 rfl rv5 h.1.1 h.1.2 h.2.1.1 h.2.1.2 h.2.2
theorem NL_Y_paintInput_99_eq (v1 : Int) (v2 : Int) (v3 : Int) (v4 : Int) (v5 : Int) (v6 : Int) (v7 : Int) (m : YS) : NL_Y_paintInput_99 v1 v2 v3 v4 v5 v6 v7 m = itc (nb_Y_paintInput_99 v1 v2 v3 v4 v5 v6 v7 m) (fun s => NL_Y_paintInput_99 v1 v2 v3 v4 v5 s.1 s.2.1 s.2.2) := it_eq2 (fun s : Int × Int × YS => nb_Y_paintInput_99 v1 v2 v3 v4 v5 s.1 s.2.1 s.2.2) (v6, v7, m)
noncomputable def N_Y_paintInput (v1 : Int) (v2 : Int) (v3 : Int) (m : YS) : Option (YS) :=
  (N_Y_edges v1 m).bind fun z2 =>
  ix v1 120 <|
  if (m 66 v1) = 0 then
    (N_Y_of v1 8 m).bind fun z10 =>
    ix v1 120 <|
    ck ((m 110 v1) + z2) <|
    (NL_Y_paintInput_99 v1 v2 v3 z2 z10 ((m 110 v1) + z2) 0 m).bind <|
      us (fun m17 =>
      some m17)
      (fun m21 =>
      some m21)
  else
    ix v1 120 <|
    ck ((m 110 v1) + z2) <|
    ix v1 120 <|
    ck ((m 111 v1) + z2) <|
    ix v1 120 <|
    ck (2 * z2) <|
    ck ((m 112 v1) - (2 * z2)) <|
    ix v1 120 <|
    ck (2 * z2) <|
    ck ((m 113 v1) - (2 * z2)) <|
    (N_Y_isIn v2 v3 ((m 110 v1) + z2) ((m 111 v1) + z2) ((m 112 v1) - (2 * z2)) ((m 113 v1) - (2 * z2)) m).bind fun z44 =>
    if z44 = 0 then
      some m
    else
      (N_Y_of v1 1 m).bind fun z50 =>
      st (yw m 146 0 z50) fun m54 =>
      some m54
theorem f_Y_paintInput {w y : Prop} {g : g_S} {n : NS} {m : YS} (hy : y) {xv1 : Int32} {v1 : Int} (ev1 : xv1 = Int32.ofInt v1) (rv1 : inR v1) {xv2 : Int32} {v2 : Int} (ev2 : xv2 = Int32.ofInt v2) (rv2 : inR v2) {xv3 : Int32} {v3 : Int} (ev3 : xv3 = Int32.ofInt v3) (rv3 : inR v3) (hR : RC w y g n m) : Rf (fun a b => RC w y a n b) (M_Y_paintInput 1838 xv1 xv2 xv3 g) (N_Y_paintInput v1 v2 v3 m) := by
  subst ev1
  subst ev2
  subst ev3
  unfold M_Y_paintInput N_Y_paintInput
  refine v_c (y_gt hR hy) ?_
  refine rf_bind (f_Y_edges hy rfl rv1 hR) (fun a4 z2 h => ?_)
  obtain ⟨rfl, r3⟩ := h
  refine y_Q hR hy ya66.1 (by decide) ?_
  refine y_aZ hR hy ya66 yl66 rfl rv1 (fun h6 h7 => ?_)
  refine rf_eq rfl (e_n 0) (inZ.r h7) (show inR 0 by decide) ?_ ?_
  · refine v_c (y_gt hR hy) ?_
    refine rf_bind (f_Y_of hy rfl rv1 (e_n 8) (show inR 8 by decide) hR) (fun a12 z10 h => ?_)
    obtain ⟨rfl, r11⟩ := h
    refine y_Q hR hy ya110.1 (by decide) ?_
    refine y_aI hR hy ya110 yl110 rfl rv1 (fun h14 h15 => ?_)
    refine rf_ck (fun h16 => ?_)
    refine rf_bind (fL_Y_paintInput_99 hy rfl rv1 rfl rv2 rfl rv3 rfl r3 rfl r11 (e_add rfl rfl) h16 (e_n 0) (show inR 0 by decide) hR) (fun a b h => rf_us h (fun a18 m17 h => ?_) (fun a22 m21 h => ?_))
    · have hR19 : RC w y a18 n m17 := h
      exact rf_ok (by exact hR19)
    · have hR23 : RC w y a22 n m21 := h
      exact rf_ok (by exact hR23)
  · refine y_Q hR hy ya110.1 (by decide) ?_
    refine y_aI hR hy ya110 yl110 rfl rv1 (fun h26 h27 => ?_)
    refine rf_ck (fun h28 => ?_)
    refine y_Q hR hy ya111.1 (by decide) ?_
    refine y_aI hR hy ya111 yl111 rfl rv1 (fun h30 h31 => ?_)
    refine rf_ck (fun h32 => ?_)
    refine y_Q hR hy ya112.1 (by decide) ?_
    refine y_aI hR hy ya112 yl112 rfl rv1 (fun h34 h35 => ?_)
    refine rf_ck (fun h36 => ?_)
    refine rf_ck (fun h37 => ?_)
    refine y_Q hR hy ya113.1 (by decide) ?_
    refine y_aI hR hy ya113 yl113 rfl rv1 (fun h39 h40 => ?_)
    refine rf_ck (fun h41 => ?_)
    refine rf_ck (fun h42 => ?_)
    refine v_c (y_gt hR hy) ?_
    refine rf_bind (f_Y_isIn hy rfl rv2 rfl rv3 (e_add rfl rfl) h28 (e_add rfl rfl) h32 (e_sub rfl (e_mul (e_n 2) rfl)) h37 (e_sub rfl (e_mul (e_n 2) rfl)) h42 hR) (fun a46 z44 h => ?_)
    obtain ⟨rfl, r45⟩ := h
    refine rf_eq rfl (e_n 0) (inZ.r r45) (show inR 0 by decide) ?_ ?_
    · exact rf_ok (by exact hR)
    · refine v_c (y_gt hR hy) ?_
      refine rf_bind (f_Y_of hy rfl rv1 (e_n 1) (show inR 1 by decide) hR) (fun a52 z50 h => ?_)
      obtain ⟨rfl, r51⟩ := h
      refine y_pI hR hy yk146 ⟨yt146, yz146⟩ rfl r51 (fun g56 m54 hR55 => ?_)
      exact rf_ok (by exact hR55)
noncomputable def nb_Y_paintButton_91 (v1 : Int) (v2 : Int) (v3 : Int) (v5 : Int) (v6 : Int) (v9 : Int) (v10 : Int) (v4 : Int) (v7 : Int) (v8 : Int) (v11 : Int) (m : YS) : Option ((Int × Int × Int × Int × YS) ⊕ ((YS) ⊕ (Int × Int × Int × YS))) :=
  ix v9 120 <|
  if v11 < (m 62 v9) then
    ck (400 * v9) <|
    ck ((400 * v9) + v11) <|
    ix ((400 * v9) + v11) 48000 <|
    (N_Y_isBlank (m 61 ((400 * v9) + v11)) m).bind fun z11 =>
    if z11 = 0 then
      ck (v4 + v7) <|
      (N_Y_glyph (m 61 ((400 * v9) + v11)) m).bind fun z17 =>
      ck (z17 * v10) <|
      ck ((v4 + v7) + (z17 * v10)) <|
      if v5 < ((v4 + v7) + (z17 * v10)) then
        some (.inr (.inl m))
      else
        (N_Y_letter (m 61 ((400 * v9) + v11)) v10 (v4 + v7) v6 v2 v3 v1 m).bind fun m24 =>
        (N_Y_glyph (m 61 ((400 * v9) + v11)) m24).bind fun z28 =>
        ck (z28 * v10) <|
        ck ((v4 + v7) + (z28 * v10)) <|
        ck (v11 + 1) <|
        some (.inl ((v4 + v7) + (z28 * v10), 0, 1, v11 + 1, m24))
    else
      if v8 = 0 then
        ck (v11 + 1) <|
        some (.inl (v4, v7, v8, v11 + 1, m))
      else
        if v7 = 0 then
          ck (3 * v10) <|
          ck (v11 + 1) <|
          some (.inl (v4, 3 * v10, v8, v11 + 1, m))
        else
          ck (v11 + 1) <|
          some (.inl (v4, v7, v8, v11 + 1, m))
  else
    some (.inr (.inr (v4, v7, v8, m)))
theorem fb_Y_paintButton_91 {w y : Prop} {g : g_S} {n : NS} {m : YS} (hy : y) {xv1 : Int32} {v1 : Int} (ev1 : xv1 = Int32.ofInt v1) (rv1 : inR v1) {xv2 : Int32} {v2 : Int} (ev2 : xv2 = Int32.ofInt v2) (rv2 : inR v2) {xv3 : Int32} {v3 : Int} (ev3 : xv3 = Int32.ofInt v3) (rv3 : inR v3) {xv5 : Int32} {v5 : Int} (ev5 : xv5 = Int32.ofInt v5) (rv5 : inR v5) {xv6 : Int32} {v6 : Int} (ev6 : xv6 = Int32.ofInt v6) (rv6 : inR v6) {xv9 : Int32} {v9 : Int} (ev9 : xv9 = Int32.ofInt v9) (rv9 : inR v9) {xv10 : Int32} {v10 : Int} (ev10 : xv10 = Int32.ofInt v10) (rv10 : inR v10) {xv4 : Int32} {v4 : Int} (ev4 : xv4 = Int32.ofInt v4) (rv4 : inR v4) {xv7 : Int32} {v7 : Int} (ev7 : xv7 = Int32.ofInt v7) (rv7 : inR v7) {xv8 : Int32} {v8 : Int} (ev8 : xv8 = Int32.ofInt v8) (rv8 : inR v8) {xv11 : Int32} {v11 : Int} (ev11 : xv11 = Int32.ofInt v11) (rv11 : inR v11) (hR : RC w y g n m) : Rf (RS (fun a b => RI a.1 b.1 ∧ RI a.2.1 b.2.1 ∧ RI a.2.2.1 b.2.2.1 ∧ RI a.2.2.2.1 b.2.2.2.1 ∧ RC w y a.2.2.2.2 n b.2.2.2.2) (RS (fun a b => RC w y a n b) (fun a b => RI a.1 b.1 ∧ RI a.2.1 b.2.1 ∧ RI a.2.2.1 b.2.2.1 ∧ RC w y a.2.2.2 n b.2.2.2))) (b_Y_paintButton_91 1838 xv1 xv2 xv3 xv5 xv6 xv9 xv10 xv4 xv7 xv8 xv11 g) (nb_Y_paintButton_91 v1 v2 v3 v5 v6 v9 v10 v4 v7 v8 v11 m) := by
  subst ev1
  subst ev2
  subst ev3
  subst ev5
  subst ev6
  subst ev9
  subst ev10
  subst ev4
  subst ev7
  subst ev8
  subst ev11
  unfold b_Y_paintButton_91 nb_Y_paintButton_91
  refine y_Q hR hy ya62.1 (by decide) ?_
  refine y_aI hR hy ya62 yl62 rfl rv9 (fun h2 h3 => ?_)
  refine rf_lt rfl rfl rv11 h3 ?_ ?_
  · refine y_Q hR hy ya61.1 (by decide) ?_
    refine rf_ck (fun h6 => ?_)
    refine rf_ck (fun h7 => ?_)
    refine y_aB hR hy ya61 yl61 (e_add (e_mul (e_n 400) rfl) rfl) h7 (fun h8 h9 => ?_)
    refine rf_bind (f_Y_isBlank hy rfl (inB.r h9) hR) (fun a13 z11 h => ?_)
    obtain ⟨rfl, r12⟩ := h
    refine rf_eq rfl (e_n 0) (inZ.r r12) (show inR 0 by decide) ?_ ?_
    · refine rf_ck (fun h15 => ?_)
      refine rf_bind (f_Y_glyph hy rfl (inB.r h9) hR) (fun a19 z17 h => ?_)
      obtain ⟨rfl, r18⟩ := h
      refine rf_ck (fun h20 => ?_)
      refine rf_ck (fun h21 => ?_)
      refine rf_lt rfl (e_add (e_add rfl rfl) (e_mul rfl rfl)) rv5 h21 ?_ ?_
      · exact rf_ok (by exact hR)
      · refine v_c (y_gt hR hy) ?_
        refine rf_bind (f_Y_letter hy rfl (inB.r h9) rfl rv10 (e_add rfl rfl) h15 rfl rv6 rfl rv2 rfl rv3 rfl rv1 hR) (fun g26 m24 hR25 => ?_)
        refine rf_bind (f_Y_glyph hy rfl (inB.r h9) hR25) (fun a30 z28 h => ?_)
        obtain ⟨rfl, r29⟩ := h
        refine rf_ck (fun h31 => ?_)
        refine rf_ck (fun h32 => ?_)
        refine rf_ck (fun h33 => ?_)
        exact rf_ok (by exact ⟨⟨(e_add (e_add rfl rfl) (e_mul rfl rfl)), h32⟩, ⟨(e_n 0), (show inR 0 by decide)⟩, ⟨(e_n 1), (show inR 1 by decide)⟩, ⟨(e_add rfl (e_n 1)), h33⟩, hR25⟩)
    · refine rf_eq rfl (e_n 0) rv8 (show inR 0 by decide) ?_ ?_
      · refine rf_ck (fun h35 => ?_)
        exact rf_ok (by exact ⟨⟨rfl, rv4⟩, ⟨rfl, rv7⟩, ⟨rfl, rv8⟩, ⟨(e_add rfl (e_n 1)), h35⟩, hR⟩)
      · refine rf_eq rfl (e_n 0) rv7 (show inR 0 by decide) ?_ ?_
        · refine rf_ck (fun h37 => ?_)
          refine rf_ck (fun h38 => ?_)
          exact rf_ok (by exact ⟨⟨rfl, rv4⟩, ⟨(e_mul (e_n 3) rfl), h37⟩, ⟨rfl, rv8⟩, ⟨(e_add rfl (e_n 1)), h38⟩, hR⟩)
        · refine rf_ck (fun h39 => ?_)
          exact rf_ok (by exact ⟨⟨rfl, rv4⟩, ⟨rfl, rv7⟩, ⟨rfl, rv8⟩, ⟨(e_add rfl (e_n 1)), h39⟩, hR⟩)
  · exact rf_ok (by exact ⟨⟨rfl, rv4⟩, ⟨rfl, rv7⟩, ⟨rfl, rv8⟩, hR⟩)
noncomputable def NL_Y_paintButton_91 (v1 : Int) (v2 : Int) (v3 : Int) (v5 : Int) (v6 : Int) (v9 : Int) (v10 : Int) (v4 : Int) (v7 : Int) (v8 : Int) (v11 : Int) (m : YS) : Option ((YS) ⊕ (Int × Int × Int × YS)) :=
  it (fun s : Int × Int × Int × Int × YS => nb_Y_paintButton_91 v1 v2 v3 v5 v6 v9 v10 s.1 s.2.1 s.2.2.1 s.2.2.2.1 s.2.2.2.2) (v4, v7, v8, v11, m)
theorem fL_Y_paintButton_91 {w y : Prop} {g : g_S} {n : NS} {m : YS} (hy : y) {xv1 : Int32} {v1 : Int} (ev1 : xv1 = Int32.ofInt v1) (rv1 : inR v1) {xv2 : Int32} {v2 : Int} (ev2 : xv2 = Int32.ofInt v2) (rv2 : inR v2) {xv3 : Int32} {v3 : Int} (ev3 : xv3 = Int32.ofInt v3) (rv3 : inR v3) {xv5 : Int32} {v5 : Int} (ev5 : xv5 = Int32.ofInt v5) (rv5 : inR v5) {xv6 : Int32} {v6 : Int} (ev6 : xv6 = Int32.ofInt v6) (rv6 : inR v6) {xv9 : Int32} {v9 : Int} (ev9 : xv9 = Int32.ofInt v9) (rv9 : inR v9) {xv10 : Int32} {v10 : Int} (ev10 : xv10 = Int32.ofInt v10) (rv10 : inR v10) {xv4 : Int32} {v4 : Int} (ev4 : xv4 = Int32.ofInt v4) (rv4 : inR v4) {xv7 : Int32} {v7 : Int} (ev7 : xv7 = Int32.ofInt v7) (rv7 : inR v7) {xv8 : Int32} {v8 : Int} (ev8 : xv8 = Int32.ofInt v8) (rv8 : inR v8) {xv11 : Int32} {v11 : Int} (ev11 : xv11 = Int32.ofInt v11) (rv11 : inR v11) (hR : RC w y g n m) : Rf (RS (fun a b => RC w y a n b) (fun a b => RI a.1 b.1 ∧ RI a.2.1 b.2.1 ∧ RI a.2.2.1 b.2.2.1 ∧ RC w y a.2.2.2 n b.2.2.2)) (L_Y_paintButton_91 1838 xv1 xv2 xv3 xv5 xv6 xv9 xv10 xv4 xv7 xv8 xv11 g) (NL_Y_paintButton_91 v1 v2 v3 v5 v6 v9 v10 v4 v7 v8 v11 m) := by
  subst ev1
  subst ev2
  subst ev3
  subst ev5
  subst ev6
  subst ev9
  subst ev10
  subst ev4
  subst ev7
  subst ev8
  subst ev11
  unfold L_Y_paintButton_91 NL_Y_paintButton_91
  refine rf_it (I := (fun a b => RI a.1 b.1 ∧ RI a.2.1 b.2.1 ∧ RI a.2.2.1 b.2.2.1 ∧ RI a.2.2.2.1 b.2.2.2.1 ∧ RC w y a.2.2.2.2 n b.2.2.2.2)) (fun s t h => ?_) ⟨⟨rfl, rv4⟩, ⟨rfl, rv7⟩, ⟨rfl, rv8⟩, ⟨rfl, rv11⟩, hR⟩
  exact fb_Y_paintButton_91 hy rfl rv1 rfl rv2 rfl rv3 rfl rv5 rfl rv6 rfl rv9 rfl rv10 h.1.1 h.1.2 h.2.1.1 h.2.1.2 h.2.2.1.1 h.2.2.1.2 h.2.2.2.1.1 h.2.2.2.1.2 h.2.2.2.2
theorem NL_Y_paintButton_91_eq (v1 : Int) (v2 : Int) (v3 : Int) (v5 : Int) (v6 : Int) (v9 : Int) (v10 : Int) (v4 : Int) (v7 : Int) (v8 : Int) (v11 : Int) (m : YS) : NL_Y_paintButton_91 v1 v2 v3 v5 v6 v9 v10 v4 v7 v8 v11 m = itc (nb_Y_paintButton_91 v1 v2 v3 v5 v6 v9 v10 v4 v7 v8 v11 m) (fun s => NL_Y_paintButton_91 v1 v2 v3 v5 v6 v9 v10 s.1 s.2.1 s.2.2.1 s.2.2.2.1 s.2.2.2.2) := it_eq2 (fun s : Int × Int × Int × Int × YS => nb_Y_paintButton_91 v1 v2 v3 v5 v6 v9 v10 s.1 s.2.1 s.2.2.1 s.2.2.2.1 s.2.2.2.2) (v4, v7, v8, v11, m)
noncomputable def nk_Y_paintButton_210 (v1 : Int) (v2 : Int) (v3 : Int) (v4 : Int) (v5 : Int) (v6 : Int) (v7 : Int) (v8 : Int) (v9 : Int) (m : YS) : Option ((Int × Int × Int × Int × YS) ⊕ ((YS) ⊕ (YS))) :=
  (N_Y_after v9 v1 m).bind fun z2 =>
  some (.inl (v4, v7, v8, z2, m))
theorem fk_Y_paintButton_210 {w y : Prop} {g : g_S} {n : NS} {m : YS} (hy : y) {xv1 : Int32} {v1 : Int} (ev1 : xv1 = Int32.ofInt v1) (rv1 : inR v1) {xv2 : Int32} {v2 : Int} (ev2 : xv2 = Int32.ofInt v2) (rv2 : inR v2) {xv3 : Int32} {v3 : Int} (ev3 : xv3 = Int32.ofInt v3) (rv3 : inR v3) {xv4 : Int32} {v4 : Int} (ev4 : xv4 = Int32.ofInt v4) (rv4 : inR v4) {xv5 : Int32} {v5 : Int} (ev5 : xv5 = Int32.ofInt v5) (rv5 : inR v5) {xv6 : Int32} {v6 : Int} (ev6 : xv6 = Int32.ofInt v6) (rv6 : inR v6) {xv7 : Int32} {v7 : Int} (ev7 : xv7 = Int32.ofInt v7) (rv7 : inR v7) {xv8 : Int32} {v8 : Int} (ev8 : xv8 = Int32.ofInt v8) (rv8 : inR v8) {xv9 : Int32} {v9 : Int} (ev9 : xv9 = Int32.ofInt v9) (rv9 : inR v9) (hR : RC w y g n m) : Rf (RS (fun a b => RI a.1 b.1 ∧ RI a.2.1 b.2.1 ∧ RI a.2.2.1 b.2.2.1 ∧ RI a.2.2.2.1 b.2.2.2.1 ∧ RC w y a.2.2.2.2 n b.2.2.2.2) (RS (fun a b => RC w y a n b) (fun a b => RC w y a n b))) (k_Y_paintButton_210 1838 xv1 xv2 xv3 xv4 xv5 xv6 xv7 xv8 xv9 g) (nk_Y_paintButton_210 v1 v2 v3 v4 v5 v6 v7 v8 v9 m) := by
  subst ev1
  subst ev2
  subst ev3
  subst ev4
  subst ev5
  subst ev6
  subst ev7
  subst ev8
  subst ev9
  unfold k_Y_paintButton_210 nk_Y_paintButton_210
  refine v_c (y_gt hR hy) ?_
  refine rf_bind (f_Y_after hy rfl rv9 rfl rv1 hR) (fun a4 z2 h => ?_)
  obtain ⟨rfl, r3⟩ := h
  exact rf_ok (by exact ⟨⟨rfl, rv4⟩, ⟨rfl, rv7⟩, ⟨rfl, rv8⟩, ⟨rfl, r3⟩, hR⟩)
noncomputable def nb_Y_paintButton_58 (v1 : Int) (v2 : Int) (v3 : Int) (v5 : Int) (v6 : Int) (v4 : Int) (v7 : Int) (v8 : Int) (v9 : Int) (m : YS) : Option ((Int × Int × Int × Int × YS) ⊕ ((YS) ⊕ (YS))) :=
  if v9 = (-1) then
    some (.inr (.inr m))
  else
    ix v9 120 <|
    if (m 46 v9) = 17 then
      (N_Y_of v1 8 m).bind fun z7 =>
      (NL_Y_paintButton_91 v1 v2 v3 v5 v6 v9 z7 v4 v7 v8 0 m).bind <|
        us (fun m10 =>
        some (.inr (.inl m10)))
        (u4 fun z13 z14 z15 m16 =>
        nk_Y_paintButton_210 v1 v2 v3 z13 v5 v6 z14 z15 v9 m16)
    else
      nk_Y_paintButton_210 v1 v2 v3 v4 v5 v6 v7 v8 v9 m
theorem fb_Y_paintButton_58 {w y : Prop} {g : g_S} {n : NS} {m : YS} (hy : y) {xv1 : Int32} {v1 : Int} (ev1 : xv1 = Int32.ofInt v1) (rv1 : inR v1) {xv2 : Int32} {v2 : Int} (ev2 : xv2 = Int32.ofInt v2) (rv2 : inR v2) {xv3 : Int32} {v3 : Int} (ev3 : xv3 = Int32.ofInt v3) (rv3 : inR v3) {xv5 : Int32} {v5 : Int} (ev5 : xv5 = Int32.ofInt v5) (rv5 : inR v5) {xv6 : Int32} {v6 : Int} (ev6 : xv6 = Int32.ofInt v6) (rv6 : inR v6) {xv4 : Int32} {v4 : Int} (ev4 : xv4 = Int32.ofInt v4) (rv4 : inR v4) {xv7 : Int32} {v7 : Int} (ev7 : xv7 = Int32.ofInt v7) (rv7 : inR v7) {xv8 : Int32} {v8 : Int} (ev8 : xv8 = Int32.ofInt v8) (rv8 : inR v8) {xv9 : Int32} {v9 : Int} (ev9 : xv9 = Int32.ofInt v9) (rv9 : inR v9) (hR : RC w y g n m) : Rf (RS (fun a b => RI a.1 b.1 ∧ RI a.2.1 b.2.1 ∧ RI a.2.2.1 b.2.2.1 ∧ RI a.2.2.2.1 b.2.2.2.1 ∧ RC w y a.2.2.2.2 n b.2.2.2.2) (RS (fun a b => RC w y a n b) (fun a b => RC w y a n b))) (b_Y_paintButton_58 1838 xv1 xv2 xv3 xv5 xv6 xv4 xv7 xv8 xv9 g) (nb_Y_paintButton_58 v1 v2 v3 v5 v6 v4 v7 v8 v9 m) := by
  subst ev1
  subst ev2
  subst ev3
  subst ev5
  subst ev6
  subst ev4
  subst ev7
  subst ev8
  subst ev9
  unfold b_Y_paintButton_58 nb_Y_paintButton_58
  refine rf_eq rfl (e_m 1) rv9 (show inR (-1) by decide) ?_ ?_
  · exact rf_ok (by exact hR)
  · refine y_Q hR hy ya46.1 (by decide) ?_
    refine y_aI hR hy ya46 yl46 rfl rv9 (fun h3 h4 => ?_)
    refine rf_eq rfl (e_n 17) h4 (show inR 17 by decide) ?_ ?_
    · refine v_c (y_gt hR hy) ?_
      refine rf_bind (f_Y_of hy rfl rv1 (e_n 8) (show inR 8 by decide) hR) (fun a9 z7 h => ?_)
      obtain ⟨rfl, r8⟩ := h
      refine rf_bind (fL_Y_paintButton_91 hy rfl rv1 rfl rv2 rfl rv3 rfl rv5 rfl rv6 rfl rv9 rfl r8 rfl rv4 rfl rv7 rfl rv8 (e_n 0) (show inR 0 by decide) hR) (fun a b h => rf_us h (fun a11 m10 h => ?_) (fun a b h => ?_))
      · have hR12 : RC w y a11 n m10 := h
        exact rf_ok (by exact hR12)
      · obtain ⟨a17, a18, a19, a20⟩ := a
        obtain ⟨z13, z14, z15, m16⟩ := b
        refine rf_u4 ?_
        obtain ⟨rfl, r22⟩ := (show RI a17 z13 from h.1)
        obtain ⟨rfl, r23⟩ := (show RI a18 z14 from h.2.1)
        obtain ⟨rfl, r24⟩ := (show RI a19 z15 from h.2.2.1)
        have hR21 : RC w y a20 n m16 := h.2.2.2
        exact fk_Y_paintButton_210 hy rfl rv1 rfl rv2 rfl rv3 rfl r22 rfl rv5 rfl rv6 rfl r23 rfl r24 rfl rv9 hR21
    · exact fk_Y_paintButton_210 hy rfl rv1 rfl rv2 rfl rv3 rfl rv4 rfl rv5 rfl rv6 rfl rv7 rfl rv8 rfl rv9 hR
noncomputable def NL_Y_paintButton_58 (v1 : Int) (v2 : Int) (v3 : Int) (v5 : Int) (v6 : Int) (v4 : Int) (v7 : Int) (v8 : Int) (v9 : Int) (m : YS) : Option ((YS) ⊕ (YS)) :=
  it (fun s : Int × Int × Int × Int × YS => nb_Y_paintButton_58 v1 v2 v3 v5 v6 s.1 s.2.1 s.2.2.1 s.2.2.2.1 s.2.2.2.2) (v4, v7, v8, v9, m)
theorem fL_Y_paintButton_58 {w y : Prop} {g : g_S} {n : NS} {m : YS} (hy : y) {xv1 : Int32} {v1 : Int} (ev1 : xv1 = Int32.ofInt v1) (rv1 : inR v1) {xv2 : Int32} {v2 : Int} (ev2 : xv2 = Int32.ofInt v2) (rv2 : inR v2) {xv3 : Int32} {v3 : Int} (ev3 : xv3 = Int32.ofInt v3) (rv3 : inR v3) {xv5 : Int32} {v5 : Int} (ev5 : xv5 = Int32.ofInt v5) (rv5 : inR v5) {xv6 : Int32} {v6 : Int} (ev6 : xv6 = Int32.ofInt v6) (rv6 : inR v6) {xv4 : Int32} {v4 : Int} (ev4 : xv4 = Int32.ofInt v4) (rv4 : inR v4) {xv7 : Int32} {v7 : Int} (ev7 : xv7 = Int32.ofInt v7) (rv7 : inR v7) {xv8 : Int32} {v8 : Int} (ev8 : xv8 = Int32.ofInt v8) (rv8 : inR v8) {xv9 : Int32} {v9 : Int} (ev9 : xv9 = Int32.ofInt v9) (rv9 : inR v9) (hR : RC w y g n m) : Rf (RS (fun a b => RC w y a n b) (fun a b => RC w y a n b)) (L_Y_paintButton_58 1838 xv1 xv2 xv3 xv5 xv6 xv4 xv7 xv8 xv9 g) (NL_Y_paintButton_58 v1 v2 v3 v5 v6 v4 v7 v8 v9 m) := by
  subst ev1
  subst ev2
  subst ev3
  subst ev5
  subst ev6
  subst ev4
  subst ev7
  subst ev8
  subst ev9
  unfold L_Y_paintButton_58 NL_Y_paintButton_58
  refine rf_it (I := (fun a b => RI a.1 b.1 ∧ RI a.2.1 b.2.1 ∧ RI a.2.2.1 b.2.2.1 ∧ RI a.2.2.2.1 b.2.2.2.1 ∧ RC w y a.2.2.2.2 n b.2.2.2.2)) (fun s t h => ?_) ⟨⟨rfl, rv4⟩, ⟨rfl, rv7⟩, ⟨rfl, rv8⟩, ⟨rfl, rv9⟩, hR⟩
  exact fb_Y_paintButton_58 hy rfl rv1 rfl rv2 rfl rv3 rfl rv5 rfl rv6 h.1.1 h.1.2 h.2.1.1 h.2.1.2 h.2.2.1.1 h.2.2.1.2 h.2.2.2.1.1 h.2.2.2.1.2 h.2.2.2.2
theorem NL_Y_paintButton_58_eq (v1 : Int) (v2 : Int) (v3 : Int) (v5 : Int) (v6 : Int) (v4 : Int) (v7 : Int) (v8 : Int) (v9 : Int) (m : YS) : NL_Y_paintButton_58 v1 v2 v3 v5 v6 v4 v7 v8 v9 m = itc (nb_Y_paintButton_58 v1 v2 v3 v5 v6 v4 v7 v8 v9 m) (fun s => NL_Y_paintButton_58 v1 v2 v3 v5 v6 s.1 s.2.1 s.2.2.1 s.2.2.2.1 s.2.2.2.2) := it_eq2 (fun s : Int × Int × Int × Int × YS => nb_Y_paintButton_58 v1 v2 v3 v5 v6 s.1 s.2.1 s.2.2.1 s.2.2.2.1 s.2.2.2.2) (v4, v7, v8, v9, m)
noncomputable def N_Y_paintButton (v1 : Int) (v2 : Int) (v3 : Int) (m : YS) : Option (YS) :=
  ix v1 120 <|
  (N_Y_edges v1 m).bind fun z5 =>
  ck ((m 110 v1) + z5) <|
  ix v1 120 <|
  ix v1 120 <|
  ck ((m 110 v1) + (m 112 v1)) <|
  (N_Y_edges v1 m).bind fun z17 =>
  ck (((m 110 v1) + (m 112 v1)) - z17) <|
  ix v1 120 <|
  (N_Y_edges v1 m).bind fun z25 =>
  ck ((m 111 v1) + z25) <|
  (NL_Y_paintButton_58 v1 v2 v3 (((m 110 v1) + (m 112 v1)) - z17) ((m 111 v1) + z25) ((m 110 v1) + z5) 0 0 v1 m).bind <|
    us (fun m29 =>
    some m29)
    (fun m33 =>
    some m33)
theorem f_Y_paintButton {w y : Prop} {g : g_S} {n : NS} {m : YS} (hy : y) {xv1 : Int32} {v1 : Int} (ev1 : xv1 = Int32.ofInt v1) (rv1 : inR v1) {xv2 : Int32} {v2 : Int} (ev2 : xv2 = Int32.ofInt v2) (rv2 : inR v2) {xv3 : Int32} {v3 : Int} (ev3 : xv3 = Int32.ofInt v3) (rv3 : inR v3) (hR : RC w y g n m) : Rf (fun a b => RC w y a n b) (M_Y_paintButton 1838 xv1 xv2 xv3 g) (N_Y_paintButton v1 v2 v3 m) := by
  subst ev1
  subst ev2
  subst ev3
  unfold M_Y_paintButton N_Y_paintButton
  refine y_Q hR hy ya110.1 (by decide) ?_
  refine y_aI hR hy ya110 yl110 rfl rv1 (fun h2 h3 => ?_)
  refine v_c (y_gt hR hy) ?_
  refine rf_bind (f_Y_edges hy rfl rv1 hR) (fun a7 z5 h => ?_)
  obtain ⟨rfl, r6⟩ := h
  refine rf_ck (fun h8 => ?_)
  refine y_Q hR hy ya110.1 (by decide) ?_
  refine y_aI hR hy ya110 yl110 rfl rv1 (fun h10 h11 => ?_)
  refine y_Q hR hy ya112.1 (by decide) ?_
  refine y_aI hR hy ya112 yl112 rfl rv1 (fun h13 h14 => ?_)
  refine rf_ck (fun h15 => ?_)
  refine v_c (y_gt hR hy) ?_
  refine rf_bind (f_Y_edges hy rfl rv1 hR) (fun a19 z17 h => ?_)
  obtain ⟨rfl, r18⟩ := h
  refine rf_ck (fun h20 => ?_)
  refine y_Q hR hy ya111.1 (by decide) ?_
  refine y_aI hR hy ya111 yl111 rfl rv1 (fun h22 h23 => ?_)
  refine v_c (y_gt hR hy) ?_
  refine rf_bind (f_Y_edges hy rfl rv1 hR) (fun a27 z25 h => ?_)
  obtain ⟨rfl, r26⟩ := h
  refine rf_ck (fun h28 => ?_)
  refine rf_bind (fL_Y_paintButton_58 hy rfl rv1 rfl rv2 rfl rv3 (e_sub (e_add rfl rfl) rfl) h20 (e_add rfl rfl) h28 (e_add rfl rfl) h8 (e_n 0) (show inR 0 by decide) (e_n 0) (show inR 0 by decide) rfl rv1 hR) (fun a b h => rf_us h (fun a30 m29 h => ?_) (fun a34 m33 h => ?_))
  · have hR31 : RC w y a30 n m29 := h
    exact rf_ok (by exact hR31)
  · have hR35 : RC w y a34 n m33 := h
    exact rf_ok (by exact hR35)
noncomputable def nb_Y_paint_107 (v1 : Int) (v2 : Int) (v3 : Int) (v4 : Int) (v5 : Int) (v6 : Int) (m : YS) : Option ((Int × YS) ⊕ (YS)) :=
  if v6 < v5 then
    (N_Y_paintWord v4 v6 v1 v2 m).bind fun m3 =>
    ck (v6 + 1) <|
    some (.inl (v6 + 1, m3))
  else
    some (.inr m)
theorem fb_Y_paint_107 {w y : Prop} {g : g_S} {n : NS} {m : YS} (hy : y) {xv1 : Int32} {v1 : Int} (ev1 : xv1 = Int32.ofInt v1) (rv1 : inR v1) {xv2 : Int32} {v2 : Int} (ev2 : xv2 = Int32.ofInt v2) (rv2 : inR v2) {xv3 : Int32} {v3 : Int} (ev3 : xv3 = Int32.ofInt v3) (rv3 : inR v3) {xv4 : Int32} {v4 : Int} (ev4 : xv4 = Int32.ofInt v4) (rv4 : inR v4) {xv5 : Int32} {v5 : Int} (ev5 : xv5 = Int32.ofInt v5) (rv5 : inR v5) {xv6 : Int32} {v6 : Int} (ev6 : xv6 = Int32.ofInt v6) (rv6 : inR v6) (hR : RC w y g n m) : Rf (RS (fun a b => RI a.1 b.1 ∧ RC w y a.2 n b.2) (fun a b => RC w y a n b)) (b_Y_paint_107 1838 xv1 xv2 xv3 xv4 xv5 xv6 g) (nb_Y_paint_107 v1 v2 v3 v4 v5 v6 m) := by
  subst ev1
  subst ev2
  subst ev3
  subst ev4
  subst ev5
  subst ev6
  unfold b_Y_paint_107 nb_Y_paint_107
  refine rf_lt rfl rfl rv6 rv5 ?_ ?_
  · refine v_c (y_gt hR hy) ?_
    refine rf_bind (f_Y_paintWord hy rfl rv4 rfl rv6 rfl rv1 rfl rv2 hR) (fun g5 m3 hR4 => ?_)
    refine rf_ck (fun h6 => ?_)
    exact rf_ok (by exact ⟨⟨(e_add rfl (e_n 1)), h6⟩, hR4⟩)
  · exact rf_ok (by exact hR)
noncomputable def NL_Y_paint_107 (v1 : Int) (v2 : Int) (v3 : Int) (v4 : Int) (v5 : Int) (v6 : Int) (m : YS) : Option (YS) :=
  it (fun s : Int × YS => nb_Y_paint_107 v1 v2 v3 v4 v5 s.1 s.2) (v6, m)
theorem fL_Y_paint_107 {w y : Prop} {g : g_S} {n : NS} {m : YS} (hy : y) {xv1 : Int32} {v1 : Int} (ev1 : xv1 = Int32.ofInt v1) (rv1 : inR v1) {xv2 : Int32} {v2 : Int} (ev2 : xv2 = Int32.ofInt v2) (rv2 : inR v2) {xv3 : Int32} {v3 : Int} (ev3 : xv3 = Int32.ofInt v3) (rv3 : inR v3) {xv4 : Int32} {v4 : Int} (ev4 : xv4 = Int32.ofInt v4) (rv4 : inR v4) {xv5 : Int32} {v5 : Int} (ev5 : xv5 = Int32.ofInt v5) (rv5 : inR v5) {xv6 : Int32} {v6 : Int} (ev6 : xv6 = Int32.ofInt v6) (rv6 : inR v6) (hR : RC w y g n m) : Rf (fun a b => RC w y a n b) (L_Y_paint_107 1838 xv1 xv2 xv3 xv4 xv5 xv6 g) (NL_Y_paint_107 v1 v2 v3 v4 v5 v6 m) := by
  subst ev1
  subst ev2
  subst ev3
  subst ev4
  subst ev5
  subst ev6
  unfold L_Y_paint_107 NL_Y_paint_107
  refine rf_it (I := (fun a b => RI a.1 b.1 ∧ RC w y a.2 n b.2)) (fun s t h => ?_) ⟨⟨rfl, rv6⟩, hR⟩
  exact fb_Y_paint_107 hy rfl rv1 rfl rv2 rfl rv3 rfl rv4 rfl rv5 h.1.1 h.1.2 h.2
theorem NL_Y_paint_107_eq (v1 : Int) (v2 : Int) (v3 : Int) (v4 : Int) (v5 : Int) (v6 : Int) (m : YS) : NL_Y_paint_107 v1 v2 v3 v4 v5 v6 m = itc (nb_Y_paint_107 v1 v2 v3 v4 v5 v6 m) (fun s => NL_Y_paint_107 v1 v2 v3 v4 v5 s.1 s.2) := it_eq2 (fun s : Int × YS => nb_Y_paint_107 v1 v2 v3 v4 v5 s.1 s.2) (v6, m)
noncomputable def nk_Y_paint_272 (v1 : Int) (v2 : Int) (v3 : Int) (v4 : Int) (m : YS) : Option ((Int × YS) ⊕ (YS)) :=
  ix v4 120 <|
  if (m 107 v4) = 4 then
    ix v4 120 <|
    if (m 46 v4) = 14 then
      (N_Y_paintButton v4 v1 v2 m).bind fun m10 =>
      ck (v3 + 1) <|
      some (.inl (v3 + 1, m10))
    else
      ck (v3 + 1) <|
      some (.inl (v3 + 1, m))
  else
    ck (v3 + 1) <|
    some (.inl (v3 + 1, m))
theorem fk_Y_paint_272 {w y : Prop} {g : g_S} {n : NS} {m : YS} (hy : y) {xv1 : Int32} {v1 : Int} (ev1 : xv1 = Int32.ofInt v1) (rv1 : inR v1) {xv2 : Int32} {v2 : Int} (ev2 : xv2 = Int32.ofInt v2) (rv2 : inR v2) {xv3 : Int32} {v3 : Int} (ev3 : xv3 = Int32.ofInt v3) (rv3 : inR v3) {xv4 : Int32} {v4 : Int} (ev4 : xv4 = Int32.ofInt v4) (rv4 : inR v4) (hR : RC w y g n m) : Rf (RS (fun a b => RI a.1 b.1 ∧ RC w y a.2 n b.2) (fun a b => RC w y a n b)) (k_Y_paint_272 1838 xv1 xv2 xv3 xv4 g) (nk_Y_paint_272 v1 v2 v3 v4 m) := by
  subst ev1
  subst ev2
  subst ev3
  subst ev4
  unfold k_Y_paint_272 nk_Y_paint_272
  refine y_Q hR hy ya107.1 (by decide) ?_
  refine y_aI hR hy ya107 yl107 rfl rv4 (fun h2 h3 => ?_)
  refine rf_eq rfl (e_n 4) h3 (show inR 4 by decide) ?_ ?_
  · refine y_Q hR hy ya46.1 (by decide) ?_
    refine y_aI hR hy ya46 yl46 rfl rv4 (fun h6 h7 => ?_)
    refine rf_eq rfl (e_n 14) h7 (show inR 14 by decide) ?_ ?_
    · refine v_c (y_gt hR hy) ?_
      refine rf_bind (f_Y_paintButton hy rfl rv4 rfl rv1 rfl rv2 hR) (fun g12 m10 hR11 => ?_)
      refine rf_ck (fun h13 => ?_)
      exact rf_ok (by exact ⟨⟨(e_add rfl (e_n 1)), h13⟩, hR11⟩)
    · refine rf_ck (fun h14 => ?_)
      exact rf_ok (by exact ⟨⟨(e_add rfl (e_n 1)), h14⟩, hR⟩)
  · refine rf_ck (fun h15 => ?_)
    exact rf_ok (by exact ⟨⟨(e_add rfl (e_n 1)), h15⟩, hR⟩)
noncomputable def nk_Y_paint_241 (v1 : Int) (v2 : Int) (v3 : Int) (v4 : Int) (m : YS) : Option ((Int × YS) ⊕ (YS)) :=
  ix v4 120 <|
  if (m 107 v4) = 4 then
    ix v4 120 <|
    if (m 46 v4) = 13 then
      (N_Y_paintInput v4 v1 v2 m).bind fun m10 =>
      nk_Y_paint_272 v1 v2 v3 v4 m10
    else
      nk_Y_paint_272 v1 v2 v3 v4 m
  else
    nk_Y_paint_272 v1 v2 v3 v4 m
theorem fk_Y_paint_241 {w y : Prop} {g : g_S} {n : NS} {m : YS} (hy : y) {xv1 : Int32} {v1 : Int} (ev1 : xv1 = Int32.ofInt v1) (rv1 : inR v1) {xv2 : Int32} {v2 : Int} (ev2 : xv2 = Int32.ofInt v2) (rv2 : inR v2) {xv3 : Int32} {v3 : Int} (ev3 : xv3 = Int32.ofInt v3) (rv3 : inR v3) {xv4 : Int32} {v4 : Int} (ev4 : xv4 = Int32.ofInt v4) (rv4 : inR v4) (hR : RC w y g n m) : Rf (RS (fun a b => RI a.1 b.1 ∧ RC w y a.2 n b.2) (fun a b => RC w y a n b)) (k_Y_paint_241 1838 xv1 xv2 xv3 xv4 g) (nk_Y_paint_241 v1 v2 v3 v4 m) := by
  subst ev1
  subst ev2
  subst ev3
  subst ev4
  unfold k_Y_paint_241 nk_Y_paint_241
  refine y_Q hR hy ya107.1 (by decide) ?_
  refine y_aI hR hy ya107 yl107 rfl rv4 (fun h2 h3 => ?_)
  refine rf_eq rfl (e_n 4) h3 (show inR 4 by decide) ?_ ?_
  · refine y_Q hR hy ya46.1 (by decide) ?_
    refine y_aI hR hy ya46 yl46 rfl rv4 (fun h6 h7 => ?_)
    refine rf_eq rfl (e_n 13) h7 (show inR 13 by decide) ?_ ?_
    · refine v_c (y_gt hR hy) ?_
      refine rf_bind (f_Y_paintInput hy rfl rv4 rfl rv1 rfl rv2 hR) (fun g12 m10 hR11 => ?_)
      exact fk_Y_paint_272 hy rfl rv1 rfl rv2 rfl rv3 rfl rv4 hR11
    · exact fk_Y_paint_272 hy rfl rv1 rfl rv2 rfl rv3 rfl rv4 hR
  · exact fk_Y_paint_272 hy rfl rv1 rfl rv2 rfl rv3 rfl rv4 hR
noncomputable def nk_Y_paint_233 (v1 : Int) (v2 : Int) (v3 : Int) (v4 : Int) (m : YS) : Option ((Int × YS) ⊕ (YS)) :=
  (N_Y_paintBox v4 v1 v2 m).bind fun m2 =>
  nk_Y_paint_241 v1 v2 v3 v4 m2
theorem fk_Y_paint_233 {w y : Prop} {g : g_S} {n : NS} {m : YS} (hy : y) {xv1 : Int32} {v1 : Int} (ev1 : xv1 = Int32.ofInt v1) (rv1 : inR v1) {xv2 : Int32} {v2 : Int} (ev2 : xv2 = Int32.ofInt v2) (rv2 : inR v2) {xv3 : Int32} {v3 : Int} (ev3 : xv3 = Int32.ofInt v3) (rv3 : inR v3) {xv4 : Int32} {v4 : Int} (ev4 : xv4 = Int32.ofInt v4) (rv4 : inR v4) (hR : RC w y g n m) : Rf (RS (fun a b => RI a.1 b.1 ∧ RC w y a.2 n b.2) (fun a b => RC w y a n b)) (k_Y_paint_233 1838 xv1 xv2 xv3 xv4 g) (nk_Y_paint_233 v1 v2 v3 v4 m) := by
  subst ev1
  subst ev2
  subst ev3
  subst ev4
  unfold k_Y_paint_233 nk_Y_paint_233
  refine v_c (y_gt hR hy) ?_
  refine rf_bind (f_Y_paintBox hy rfl rv4 rfl rv1 rfl rv2 hR) (fun g4 m2 hR3 => ?_)
  exact fk_Y_paint_241 hy rfl rv1 rfl rv2 rfl rv3 rfl rv4 hR3
noncomputable def nk_Y_paint_153 (v1 : Int) (v2 : Int) (v3 : Int) (v4 : Int) (m : YS) : Option ((Int × YS) ⊕ (YS)) :=
  ix v4 120 <|
  ix v4 120 <|
  ix v4 120 <|
  ix v4 120 <|
  (N_Y_isIn v1 v2 (m 110 v4) (m 111 v4) (m 112 v4) (m 113 v4) m).bind fun z14 =>
  if z14 = 0 then
    nk_Y_paint_241 v1 v2 v3 v4 m
  else
    st (yw m 147 0 v4) fun m19 =>
    ix v4 120 <|
    if (m19 46 v4) = 12 then
      ix v4 120 <|
      if (m19 107 v4) = 4 then
        (N_Y_of v4 1 m19).bind fun z31 =>
        st (yw m19 146 0 z31) fun m35 =>
        nk_Y_paint_241 v1 v2 v3 v4 m35
      else
        nk_Y_paint_233 v1 v2 v3 v4 m19
    else
      nk_Y_paint_233 v1 v2 v3 v4 m19
theorem fk_Y_paint_153 {w y : Prop} {g : g_S} {n : NS} {m : YS} (hy : y) {xv1 : Int32} {v1 : Int} (ev1 : xv1 = Int32.ofInt v1) (rv1 : inR v1) {xv2 : Int32} {v2 : Int} (ev2 : xv2 = Int32.ofInt v2) (rv2 : inR v2) {xv3 : Int32} {v3 : Int} (ev3 : xv3 = Int32.ofInt v3) (rv3 : inR v3) {xv4 : Int32} {v4 : Int} (ev4 : xv4 = Int32.ofInt v4) (rv4 : inR v4) (hR : RC w y g n m) : Rf (RS (fun a b => RI a.1 b.1 ∧ RC w y a.2 n b.2) (fun a b => RC w y a n b)) (k_Y_paint_153 1838 xv1 xv2 xv3 xv4 g) (nk_Y_paint_153 v1 v2 v3 v4 m) := by
  subst ev1
  subst ev2
  subst ev3
  subst ev4
  unfold k_Y_paint_153 nk_Y_paint_153
  refine y_Q hR hy ya110.1 (by decide) ?_
  refine y_aI hR hy ya110 yl110 rfl rv4 (fun h2 h3 => ?_)
  refine y_Q hR hy ya111.1 (by decide) ?_
  refine y_aI hR hy ya111 yl111 rfl rv4 (fun h5 h6 => ?_)
  refine y_Q hR hy ya112.1 (by decide) ?_
  refine y_aI hR hy ya112 yl112 rfl rv4 (fun h8 h9 => ?_)
  refine y_Q hR hy ya113.1 (by decide) ?_
  refine y_aI hR hy ya113 yl113 rfl rv4 (fun h11 h12 => ?_)
  refine v_c (y_gt hR hy) ?_
  refine rf_bind (f_Y_isIn hy rfl rv1 rfl rv2 rfl h3 rfl h6 rfl h9 rfl h12 hR) (fun a16 z14 h => ?_)
  obtain ⟨rfl, r15⟩ := h
  refine rf_eq rfl (e_n 0) (inZ.r r15) (show inR 0 by decide) ?_ ?_
  · exact fk_Y_paint_241 hy rfl rv1 rfl rv2 rfl rv3 rfl rv4 hR
  · refine y_pI hR hy yk147 ⟨yt147, yz147⟩ rfl rv4 (fun g21 m19 hR20 => ?_)
    refine y_Q hR20 hy ya46.1 (by decide) ?_
    refine y_aI hR20 hy ya46 yl46 rfl rv4 (fun h23 h24 => ?_)
    refine rf_eq rfl (e_n 12) h24 (show inR 12 by decide) ?_ ?_
    · refine y_Q hR20 hy ya107.1 (by decide) ?_
      refine y_aI hR20 hy ya107 yl107 rfl rv4 (fun h27 h28 => ?_)
      refine rf_eq rfl (e_n 4) h28 (show inR 4 by decide) ?_ ?_
      · refine v_c (y_gt hR20 hy) ?_
        refine rf_bind (f_Y_of hy rfl rv4 (e_n 1) (show inR 1 by decide) hR20) (fun a33 z31 h => ?_)
        obtain ⟨rfl, r32⟩ := h
        refine y_pI hR20 hy yk146 ⟨yt146, yz146⟩ rfl r32 (fun g37 m35 hR36 => ?_)
        exact fk_Y_paint_241 hy rfl rv1 rfl rv2 rfl rv3 rfl rv4 hR36
      · exact fk_Y_paint_233 hy rfl rv1 rfl rv2 rfl rv3 rfl rv4 hR20
    · exact fk_Y_paint_233 hy rfl rv1 rfl rv2 rfl rv3 rfl rv4 hR20
noncomputable def nk_Y_paint_96 (v1 : Int) (v2 : Int) (v3 : Int) (v4 : Int) (w0 : Int) (m : YS) : Option ((Int × YS) ⊕ (YS)) :=
  ix v4 120 <|
  (NL_Y_paint_107 v1 v2 v3 v4 w0 (m 116 v4) m).bind <| fun m4 =>
  nk_Y_paint_241 v1 v2 v3 v4 m4
theorem fk_Y_paint_96 {w y : Prop} {g : g_S} {n : NS} {m : YS} (hy : y) {xv1 : Int32} {v1 : Int} (ev1 : xv1 = Int32.ofInt v1) (rv1 : inR v1) {xv2 : Int32} {v2 : Int} (ev2 : xv2 = Int32.ofInt v2) (rv2 : inR v2) {xv3 : Int32} {v3 : Int} (ev3 : xv3 = Int32.ofInt v3) (rv3 : inR v3) {xv4 : Int32} {v4 : Int} (ev4 : xv4 = Int32.ofInt v4) (rv4 : inR v4) {xw0 : Int32} {w0 : Int} (ew0 : xw0 = Int32.ofInt w0) (rw0 : inR w0) (hR : RC w y g n m) : Rf (RS (fun a b => RI a.1 b.1 ∧ RC w y a.2 n b.2) (fun a b => RC w y a n b)) (k_Y_paint_96 1838 xv1 xv2 xv3 xv4 xw0 g) (nk_Y_paint_96 v1 v2 v3 v4 w0 m) := by
  subst ev1
  subst ev2
  subst ev3
  subst ev4
  subst ew0
  unfold k_Y_paint_96 nk_Y_paint_96
  refine y_Q hR hy ya116.1 (by decide) ?_
  refine y_aI hR hy ya116 yl116 rfl rv4 (fun h2 h3 => ?_)
  refine rf_bind (fL_Y_paint_107 hy rfl rv1 rfl rv2 rfl rv3 rfl rv4 rfl rw0 rfl h3 hR) (fun a5 m4 h => ?_)
  have hR6 : RC w y a5 n m4 := h
  exact fk_Y_paint_241 hy rfl rv1 rfl rv2 rfl rv3 rfl rv4 hR6
noncomputable def nb_Y_paint_38 (v1 : Int) (v2 : Int) (v3 : Int) (m : YS) : Option ((Int × YS) ⊕ (YS)) :=
  if v3 < (m 125 0) then
    ix v3 120 <|
    ix (m 124 v3) 120 <|
    if (m 107 (m 124 v3)) = 6 then
      ck (v3 + 1) <|
      if (v3 + 1) < (m 125 0) then
        ck (v3 + 1) <|
        ix (v3 + 1) 120 <|
        ix (m 124 (v3 + 1)) 120 <|
        nk_Y_paint_96 v1 v2 v3 (m 124 v3) (m 116 (m 124 (v3 + 1))) m
      else
        nk_Y_paint_96 v1 v2 v3 (m 124 v3) (m 117 0) m
    else
      (N_Y_isBox (m 124 v3) m).bind fun z22 =>
      if z22 = 0 then
        ix (m 124 v3) 120 <|
        if (m 107 (m 124 v3)) = 4 then
          nk_Y_paint_153 v1 v2 v3 (m 124 v3) m
        else
          nk_Y_paint_241 v1 v2 v3 (m 124 v3) m
      else
        nk_Y_paint_153 v1 v2 v3 (m 124 v3) m
  else
    some (.inr m)
theorem fb_Y_paint_38 {w y : Prop} {g : g_S} {n : NS} {m : YS} (hy : y) {xv1 : Int32} {v1 : Int} (ev1 : xv1 = Int32.ofInt v1) (rv1 : inR v1) {xv2 : Int32} {v2 : Int} (ev2 : xv2 = Int32.ofInt v2) (rv2 : inR v2) {xv3 : Int32} {v3 : Int} (ev3 : xv3 = Int32.ofInt v3) (rv3 : inR v3) (hR : RC w y g n m) : Rf (RS (fun a b => RI a.1 b.1 ∧ RC w y a.2 n b.2) (fun a b => RC w y a n b)) (b_Y_paint_38 1838 xv1 xv2 xv3 g) (nb_Y_paint_38 v1 v2 v3 m) := by
  subst ev1
  subst ev2
  subst ev3
  unfold b_Y_paint_38 nb_Y_paint_38
  refine y_I hR hy yk125 yt125 (fun h1 => ?_)
  refine rf_lt rfl rfl rv3 h1 ?_ ?_
  · refine y_Q hR hy ya124.1 (by decide) ?_
    refine y_aI hR hy ya124 yl124 rfl rv3 (fun h4 h5 => ?_)
    refine y_Q hR hy ya107.1 (by decide) ?_
    refine y_aI hR hy ya107 yl107 rfl h5 (fun h7 h8 => ?_)
    refine rf_eq rfl (e_n 6) h8 (show inR 6 by decide) ?_ ?_
    · refine rf_ck (fun h10 => ?_)
      refine y_I hR hy yk125 yt125 (fun h11 => ?_)
      refine rf_lt (e_add rfl (e_n 1)) rfl h10 h11 ?_ ?_
      · refine y_Q hR hy ya116.1 (by decide) ?_
        refine y_Q hR hy ya124.1 (by decide) ?_
        refine rf_ck (fun h15 => ?_)
        refine y_aI hR hy ya124 yl124 (e_add rfl (e_n 1)) h15 (fun h16 h17 => ?_)
        refine y_aI hR hy ya116 yl116 rfl h17 (fun h18 h19 => ?_)
        exact fk_Y_paint_96 hy rfl rv1 rfl rv2 rfl rv3 rfl h5 rfl h19 hR
      · refine y_I hR hy yk117 yt117 (fun h20 => ?_)
        exact fk_Y_paint_96 hy rfl rv1 rfl rv2 rfl rv3 rfl h5 rfl h20 hR
    · refine v_c (y_gt hR hy) ?_
      refine rf_bind (f_Y_isBox hy rfl h5 hR) (fun a24 z22 h => ?_)
      obtain ⟨rfl, r23⟩ := h
      refine rf_eq rfl (e_n 0) (inZ.r r23) (show inR 0 by decide) ?_ ?_
      · refine y_Q hR hy ya107.1 (by decide) ?_
        refine y_aI hR hy ya107 yl107 rfl h5 (fun h27 h28 => ?_)
        refine rf_eq rfl (e_n 4) h28 (show inR 4 by decide) ?_ ?_
        · exact fk_Y_paint_153 hy rfl rv1 rfl rv2 rfl rv3 rfl h5 hR
        · exact fk_Y_paint_241 hy rfl rv1 rfl rv2 rfl rv3 rfl h5 hR
      · exact fk_Y_paint_153 hy rfl rv1 rfl rv2 rfl rv3 rfl h5 hR
  · exact rf_ok (by exact hR)
noncomputable def NL_Y_paint_38 (v1 : Int) (v2 : Int) (v3 : Int) (m : YS) : Option (YS) :=
  it (fun s : Int × YS => nb_Y_paint_38 v1 v2 s.1 s.2) (v3, m)
theorem fL_Y_paint_38 {w y : Prop} {g : g_S} {n : NS} {m : YS} (hy : y) {xv1 : Int32} {v1 : Int} (ev1 : xv1 = Int32.ofInt v1) (rv1 : inR v1) {xv2 : Int32} {v2 : Int} (ev2 : xv2 = Int32.ofInt v2) (rv2 : inR v2) {xv3 : Int32} {v3 : Int} (ev3 : xv3 = Int32.ofInt v3) (rv3 : inR v3) (hR : RC w y g n m) : Rf (fun a b => RC w y a n b) (L_Y_paint_38 1838 xv1 xv2 xv3 g) (NL_Y_paint_38 v1 v2 v3 m) := by
  subst ev1
  subst ev2
  subst ev3
  unfold L_Y_paint_38 NL_Y_paint_38
  refine rf_it (I := (fun a b => RI a.1 b.1 ∧ RC w y a.2 n b.2)) (fun s t h => ?_) ⟨⟨rfl, rv3⟩, hR⟩
  exact fb_Y_paint_38 hy rfl rv1 rfl rv2 h.1.1 h.1.2 h.2
theorem NL_Y_paint_38_eq (v1 : Int) (v2 : Int) (v3 : Int) (m : YS) : NL_Y_paint_38 v1 v2 v3 m = itc (nb_Y_paint_38 v1 v2 v3 m) (fun s => NL_Y_paint_38 v1 v2 s.1 s.2) := it_eq2 (fun s : Int × YS => nb_Y_paint_38 v1 v2 s.1 s.2) (v3, m)
noncomputable def N_Y_paint (v1 : Int) (v2 : Int) (m : YS) : Option (Int × YS) :=
  st (yw m 146 0 0) fun m2 =>
  st (yw m2 147 0 (-1)) fun m6 =>
  if v2 < 0 then
    some (0, m6)
  else
    (N_Y_pictureHigh m6).bind <| u2 fun z12 m15 =>
    if v2 < z12 then
      if v1 < 0 then
        some (0, m15)
      else
        if v1 < (m15 106 0) then
          (NL_Y_paint_38 v1 v2 0 m15).bind <| fun m23 =>
          some (1, m23)
        else
          some (0, m15)
    else
      some (0, m15)
theorem f_Y_paint {w y : Prop} {g : g_S} {n : NS} {m : YS} (hy : y) {xv1 : Int32} {v1 : Int} (ev1 : xv1 = Int32.ofInt v1) (rv1 : inR v1) {xv2 : Int32} {v2 : Int} (ev2 : xv2 = Int32.ofInt v2) (rv2 : inR v2) (hR : RC w y g n m) : Rf (fun a b => RZ a.1 b.1 ∧ RC w y a.2 n b.2) (M_Y_paint 1838 xv1 xv2 g) (N_Y_paint v1 v2 m) := by
  subst ev1
  subst ev2
  unfold M_Y_paint N_Y_paint
  refine y_pI hR hy yk146 ⟨yt146, yz146⟩ (e_n 0) (show inR 0 by decide) (fun g4 m2 hR3 => ?_)
  refine y_pI hR3 hy yk147 ⟨yt147, yz147⟩ (e_m 1) (show inR (-1) by decide) (fun g8 m6 hR7 => ?_)
  refine rf_lt rfl (e_n 0) rv2 (show inR 0 by decide) ?_ ?_
  · exact rf_ok (by exact ⟨⟨(e_n 0), (.inl rfl)⟩, hR7⟩)
  · refine v_c2 (y_gt hR7 hy) ?_
    refine rf_c2 (f_Y_pictureHigh hy hR7) (fun a14 g17 b h => ?_)
    obtain ⟨z12, m15⟩ := b
    refine rf_v2 ?_
    obtain ⟨rfl, r13⟩ := (show RI a14 z12 from h.1)
    have hR16 : RC w y g17 n m15 := h.2
    refine rf_lt rfl rfl rv2 r13 ?_ ?_
    · refine rf_lt rfl (e_n 0) rv1 (show inR 0 by decide) ?_ ?_
      · exact rf_ok (by exact ⟨⟨(e_n 0), (.inl rfl)⟩, hR16⟩)
      · refine y_I hR16 hy yk106 yt106 (fun h21 => ?_)
        refine rf_lt rfl rfl rv1 h21 ?_ ?_
        · refine rf_bind (fL_Y_paint_38 hy rfl rv1 rfl rv2 (e_n 0) (show inR 0 by decide) hR16) (fun a24 m23 h => ?_)
          have hR25 : RC w y a24 n m23 := h
          exact rf_ok (by exact ⟨⟨(e_n 1), (.inr rfl)⟩, hR25⟩)
        · exact rf_ok (by exact ⟨⟨(e_n 0), (.inl rfl)⟩, hR16⟩)
    · exact rf_ok (by exact ⟨⟨(e_n 0), (.inl rfl)⟩, hR16⟩)
noncomputable def N_Y_point (v1 : Int) (v2 : Int) (m : YS) : Option (Int × YS) :=
  (N_Y_paint v1 v2 m).bind <| u2 fun z2 m5 =>
  if z2 = 0 then
    some ((-1), m5)
  else
    some ((m5 146 0), m5)
theorem f_Y_point {w y : Prop} {g : g_S} {n : NS} {m : YS} (hy : y) {xv1 : Int32} {v1 : Int} (ev1 : xv1 = Int32.ofInt v1) (rv1 : inR v1) {xv2 : Int32} {v2 : Int} (ev2 : xv2 = Int32.ofInt v2) (rv2 : inR v2) (hR : RC w y g n m) : Rf (fun a b => RI a.1 b.1 ∧ RC w y a.2 n b.2) (M_Y_point 1838 xv1 xv2 g) (N_Y_point v1 v2 m) := by
  subst ev1
  subst ev2
  unfold M_Y_point N_Y_point
  refine v_c2 (y_gt hR hy) ?_
  refine rf_c2 (f_Y_paint hy rfl rv1 rfl rv2 hR) (fun a4 g7 b h => ?_)
  obtain ⟨z2, m5⟩ := b
  refine rf_v2 ?_
  obtain ⟨rfl, r3⟩ := (show RZ a4 z2 from h.1)
  have hR6 : RC w y g7 n m5 := h.2
  refine rf_eq rfl (e_n 0) (inZ.r r3) (show inR 0 by decide) ?_ ?_
  · exact rf_ok (by exact ⟨⟨(e_m 1), (show inR (-1) by decide)⟩, hR6⟩)
  · refine y_I hR6 hy yk146 yt146 (fun h10 => ?_)
    exact rf_ok (by exact ⟨⟨rfl, h10⟩, hR6⟩)
noncomputable def N_Y_top (v1 : Int) (v2 : Int) (m : YS) : Option (Int × YS) :=
  (N_Y_paint v1 v2 m).bind <| u2 fun z2 m5 =>
  if z2 = 0 then
    some ((-1), m5)
  else
    some ((m5 147 0), m5)
theorem f_Y_top {w y : Prop} {g : g_S} {n : NS} {m : YS} (hy : y) {xv1 : Int32} {v1 : Int} (ev1 : xv1 = Int32.ofInt v1) (rv1 : inR v1) {xv2 : Int32} {v2 : Int} (ev2 : xv2 = Int32.ofInt v2) (rv2 : inR v2) (hR : RC w y g n m) : Rf (fun a b => RI a.1 b.1 ∧ RC w y a.2 n b.2) (M_Y_top 1838 xv1 xv2 g) (N_Y_top v1 v2 m) := by
  subst ev1
  subst ev2
  unfold M_Y_top N_Y_top
  refine v_c2 (y_gt hR hy) ?_
  refine rf_c2 (f_Y_paint hy rfl rv1 rfl rv2 hR) (fun a4 g7 b h => ?_)
  obtain ⟨z2, m5⟩ := b
  refine rf_v2 ?_
  obtain ⟨rfl, r3⟩ := (show RZ a4 z2 from h.1)
  have hR6 : RC w y g7 n m5 := h.2
  refine rf_eq rfl (e_n 0) (inZ.r r3) (show inR 0 by decide) ?_ ?_
  · exact rf_ok (by exact ⟨⟨(e_m 1), (show inR (-1) by decide)⟩, hR6⟩)
  · refine y_I hR6 hy yk147 yt147 (fun h10 => ?_)
    exact rf_ok (by exact ⟨⟨rfl, h10⟩, hR6⟩)
noncomputable def nb_Y_wayUp_7 (v2 : Int) (m : YS) : Option ((Int × YS) ⊕ (YS)) :=
  if v2 = (-1) then
    some (.inr m)
  else
    (N_Y_onWay v2 m).bind fun m3 =>
    ix v2 120 <|
    some (.inl ((m3 49 v2), m3))
theorem fb_Y_wayUp_7 {w y : Prop} {g : g_S} {n : NS} {m : YS} (hy : y) {xv2 : Int32} {v2 : Int} (ev2 : xv2 = Int32.ofInt v2) (rv2 : inR v2) (hR : RC w y g n m) : Rf (RS (fun a b => RI a.1 b.1 ∧ RC w y a.2 n b.2) (fun a b => RC w y a n b)) (b_Y_wayUp_7 1838 xv2 g) (nb_Y_wayUp_7 v2 m) := by
  subst ev2
  unfold b_Y_wayUp_7 nb_Y_wayUp_7
  refine rf_eq rfl (e_m 1) rv2 (show inR (-1) by decide) ?_ ?_
  · exact rf_ok (by exact hR)
  · refine v_c (y_gt hR hy) ?_
    refine rf_bind (f_Y_onWay hy rfl rv2 hR) (fun g5 m3 hR4 => ?_)
    refine y_Q hR4 hy ya49.1 (by decide) ?_
    refine y_aI hR4 hy ya49 yl49 rfl rv2 (fun h7 h8 => ?_)
    exact rf_ok (by exact ⟨⟨rfl, h8⟩, hR4⟩)
noncomputable def NL_Y_wayUp_7 (v2 : Int) (m : YS) : Option (YS) :=
  it (fun s : Int × YS => nb_Y_wayUp_7 s.1 s.2) (v2, m)
theorem fL_Y_wayUp_7 {w y : Prop} {g : g_S} {n : NS} {m : YS} (hy : y) {xv2 : Int32} {v2 : Int} (ev2 : xv2 = Int32.ofInt v2) (rv2 : inR v2) (hR : RC w y g n m) : Rf (fun a b => RC w y a n b) (L_Y_wayUp_7 1838 xv2 g) (NL_Y_wayUp_7 v2 m) := by
  subst ev2
  unfold L_Y_wayUp_7 NL_Y_wayUp_7
  refine rf_it (I := (fun a b => RI a.1 b.1 ∧ RC w y a.2 n b.2)) (fun s t h => ?_) ⟨⟨rfl, rv2⟩, hR⟩
  exact fb_Y_wayUp_7 hy h.1.1 h.1.2 h.2
theorem NL_Y_wayUp_7_eq (v2 : Int) (m : YS) : NL_Y_wayUp_7 v2 m = itc (nb_Y_wayUp_7 v2 m) (fun s => NL_Y_wayUp_7 s.1 s.2) := it_eq2 (fun s : Int × YS => nb_Y_wayUp_7 s.1 s.2) (v2, m)
noncomputable def N_Y_wayUp (v1 : Int) (m : YS) : Option (YS) :=
  st (yw m 181 0 0) fun m2 =>
  (NL_Y_wayUp_7 v1 m2).bind <| fun m5 =>
  some m5
theorem f_Y_wayUp {w y : Prop} {g : g_S} {n : NS} {m : YS} (hy : y) {xv1 : Int32} {v1 : Int} (ev1 : xv1 = Int32.ofInt v1) (rv1 : inR v1) (hR : RC w y g n m) : Rf (fun a b => RC w y a n b) (M_Y_wayUp 1838 xv1 g) (N_Y_wayUp v1 m) := by
  subst ev1
  unfold M_Y_wayUp N_Y_wayUp
  refine y_pI hR hy yk181 ⟨yt181, yz181⟩ (e_n 0) (show inR 0 by decide) (fun g4 m2 hR3 => ?_)
  refine rf_bind (fL_Y_wayUp_7 hy rfl rv1 hR3) (fun a6 m5 h => ?_)
  have hR7 : RC w y a6 n m5 := h
  exact rf_ok (by exact hR7)
noncomputable def nb_Y_goesUp_7 (v1 : Int) (v3 : Int) (m : YS) : Option ((Int × YS) ⊕ (YS)) :=
  if v3 < (m 181 0) then
    if (m 163 0) = 0 then
      if (m 152 0) = 0 then
        if (m 154 0) = 0 then
          (N_Y_isThere v3 m).bind fun z10 =>
          if z10 = 0 then
            ck (v3 + 1) <|
            some (.inl (v3 + 1, m))
          else
            (N_Y_listen v3 v1 m).bind fun m16 =>
            ck (v3 + 1) <|
            some (.inl (v3 + 1, m16))
        else
          some (.inr m)
      else
        some (.inr m)
    else
      some (.inr m)
  else
    some (.inr m)
theorem fb_Y_goesUp_7 {w y : Prop} {g : g_S} {n : NS} {m : YS} (hy : y) {xv1 : Int64} {v1 : Int} (ev1 : xv1 = Int64.ofInt v1) (rv1 : inL v1) {xv3 : Int32} {v3 : Int} (ev3 : xv3 = Int32.ofInt v3) (rv3 : inR v3) (hR : RC w y g n m) : Rf (RS (fun a b => RI a.1 b.1 ∧ RC w y a.2 n b.2) (fun a b => RC w y a n b)) (b_Y_goesUp_7 1838 xv1 xv3 g) (nb_Y_goesUp_7 v1 v3 m) := by
  subst ev1
  subst ev3
  unfold b_Y_goesUp_7 nb_Y_goesUp_7
  refine y_I hR hy yk181 yt181 (fun h1 => ?_)
  refine rf_lt rfl rfl rv3 h1 ?_ ?_
  · refine y_Z hR hy yk163 yt163 yz163 (fun h3 => ?_)
    refine rf_eq rfl (e_n 0) (inZ.r h3) (show inR 0 by decide) ?_ ?_
    · refine y_Z hR hy yk152 yt152 yz152 (fun h5 => ?_)
      refine rf_eq rfl (e_n 0) (inZ.r h5) (show inR 0 by decide) ?_ ?_
      · refine y_Z hR hy yk154 yt154 yz154 (fun h7 => ?_)
        refine rf_eq rfl (e_n 0) (inZ.r h7) (show inR 0 by decide) ?_ ?_
        · refine v_c (y_gt hR hy) ?_
          refine rf_bind (f_Y_isThere hy rfl rv3 hR) (fun a12 z10 h => ?_)
          obtain ⟨rfl, r11⟩ := h
          refine rf_eq rfl (e_n 0) (inZ.r r11) (show inR 0 by decide) ?_ ?_
          · refine rf_ck (fun h14 => ?_)
            exact rf_ok (by exact ⟨⟨(e_add rfl (e_n 1)), h14⟩, hR⟩)
          · refine v_c (y_gt hR hy) ?_
            refine rf_bind (f_Y_listen hy rfl rv3 rfl rv1 hR) (fun g18 m16 hR17 => ?_)
            refine rf_ck (fun h19 => ?_)
            exact rf_ok (by exact ⟨⟨(e_add rfl (e_n 1)), h19⟩, hR17⟩)
        · exact rf_ok (by exact hR)
      · exact rf_ok (by exact hR)
    · exact rf_ok (by exact hR)
  · exact rf_ok (by exact hR)
noncomputable def NL_Y_goesUp_7 (v1 : Int) (v3 : Int) (m : YS) : Option (YS) :=
  it (fun s : Int × YS => nb_Y_goesUp_7 v1 s.1 s.2) (v3, m)
theorem fL_Y_goesUp_7 {w y : Prop} {g : g_S} {n : NS} {m : YS} (hy : y) {xv1 : Int64} {v1 : Int} (ev1 : xv1 = Int64.ofInt v1) (rv1 : inL v1) {xv3 : Int32} {v3 : Int} (ev3 : xv3 = Int32.ofInt v3) (rv3 : inR v3) (hR : RC w y g n m) : Rf (fun a b => RC w y a n b) (L_Y_goesUp_7 1838 xv1 xv3 g) (NL_Y_goesUp_7 v1 v3 m) := by
  subst ev1
  subst ev3
  unfold L_Y_goesUp_7 NL_Y_goesUp_7
  refine rf_it (I := (fun a b => RI a.1 b.1 ∧ RC w y a.2 n b.2)) (fun s t h => ?_) ⟨⟨rfl, rv3⟩, hR⟩
  exact fb_Y_goesUp_7 hy rfl rv1 h.1.1 h.1.2 h.2
theorem NL_Y_goesUp_7_eq (v1 : Int) (v3 : Int) (m : YS) : NL_Y_goesUp_7 v1 v3 m = itc (nb_Y_goesUp_7 v1 v3 m) (fun s => NL_Y_goesUp_7 v1 s.1 s.2) := it_eq2 (fun s : Int × YS => nb_Y_goesUp_7 v1 s.1 s.2) (v3, m)
noncomputable def nk_Y_goesUp_56 (m : YS) : Option (Int × YS) :=
  if (m 163 0) = 0 then
    if (m 152 0) = 0 then
      if (m 154 0) = 0 then
        some (1, m)
      else
        some (0, m)
    else
      some (0, m)
  else
    some (0, m)
theorem fk_Y_goesUp_56 {w y : Prop} {g : g_S} {n : NS} {m : YS} (hy : y) (hR : RC w y g n m) : Rf (fun a b => RZ a.1 b.1 ∧ RC w y a.2 n b.2) (k_Y_goesUp_56 1838 g) (nk_Y_goesUp_56 m) := by
  unfold k_Y_goesUp_56 nk_Y_goesUp_56
  refine y_Z hR hy yk163 yt163 yz163 (fun h1 => ?_)
  refine rf_eq rfl (e_n 0) (inZ.r h1) (show inR 0 by decide) ?_ ?_
  · refine y_Z hR hy yk152 yt152 yz152 (fun h3 => ?_)
    refine rf_eq rfl (e_n 0) (inZ.r h3) (show inR 0 by decide) ?_ ?_
    · refine y_Z hR hy yk154 yt154 yz154 (fun h5 => ?_)
      refine rf_eq rfl (e_n 0) (inZ.r h5) (show inR 0 by decide) ?_ ?_
      · exact rf_ok (by exact ⟨⟨(e_n 1), (.inr rfl)⟩, hR⟩)
      · exact rf_ok (by exact ⟨⟨(e_n 0), (.inl rfl)⟩, hR⟩)
    · exact rf_ok (by exact ⟨⟨(e_n 0), (.inl rfl)⟩, hR⟩)
  · exact rf_ok (by exact ⟨⟨(e_n 0), (.inl rfl)⟩, hR⟩)
noncomputable def N_Y_goesUp (v1 : Int) (m : YS) : Option (Int × YS) :=
  st (yw m 163 0 0) fun m2 =>
  (NL_Y_goesUp_7 v1 0 m2).bind <| fun m5 =>
  nk_Y_goesUp_56 m5
theorem f_Y_goesUp {w y : Prop} {g : g_S} {n : NS} {m : YS} (hy : y) {xv1 : Int64} {v1 : Int} (ev1 : xv1 = Int64.ofInt v1) (rv1 : inL v1) (hR : RC w y g n m) : Rf (fun a b => RZ a.1 b.1 ∧ RC w y a.2 n b.2) (M_Y_goesUp 1838 xv1 g) (N_Y_goesUp v1 m) := by
  subst ev1
  unfold M_Y_goesUp N_Y_goesUp
  refine y_pZ hR hy yk163 yt163 (e_n 0) (.inl rfl) (fun g4 m2 hR3 => ?_)
  refine rf_bind (fL_Y_goesUp_7 hy rfl rv1 (e_n 0) (show inR 0 by decide) hR3) (fun a6 m5 h => ?_)
  have hR7 : RC w y a6 n m5 := h
  exact fk_Y_goesUp_56 hy hR7
noncomputable def nb_Y_formOf_2 (v2 : Int) (m : YS) : Option ((Int) ⊕ (Int)) :=
  if v2 = (-1) then
    some (.inr v2)
  else
    ix v2 120 <|
    if (m 46 v2) = 5 then
      some (.inr v2)
    else
      ix v2 120 <|
      some (.inl (m 49 v2))
theorem fb_Y_formOf_2 {w y : Prop} {g : g_S} {n : NS} {m : YS} (hy : y) {xv2 : Int32} {v2 : Int} (ev2 : xv2 = Int32.ofInt v2) (rv2 : inR v2) (hR : RC w y g n m) : Rf (RS (fun a b => RI a b) (fun a b => RI a b)) (b_Y_formOf_2 1838 xv2 g) (nb_Y_formOf_2 v2 m) := by
  subst ev2
  unfold b_Y_formOf_2 nb_Y_formOf_2
  refine rf_eq rfl (e_m 1) rv2 (show inR (-1) by decide) ?_ ?_
  · exact rf_ok (by exact ⟨rfl, rv2⟩)
  · refine y_Q hR hy ya46.1 (by decide) ?_
    refine y_aI hR hy ya46 yl46 rfl rv2 (fun h3 h4 => ?_)
    refine rf_eq rfl (e_n 5) h4 (show inR 5 by decide) ?_ ?_
    · exact rf_ok (by exact ⟨rfl, rv2⟩)
    · refine y_Q hR hy ya49.1 (by decide) ?_
      refine y_aI hR hy ya49 yl49 rfl rv2 (fun h7 h8 => ?_)
      exact rf_ok (by exact ⟨rfl, h8⟩)
noncomputable def NL_Y_formOf_2 (v2 : Int) (m : YS) : Option (Int) :=
  it (fun s : Int => nb_Y_formOf_2 s m) (v2)
theorem fL_Y_formOf_2 {w y : Prop} {g : g_S} {n : NS} {m : YS} (hy : y) {xv2 : Int32} {v2 : Int} (ev2 : xv2 = Int32.ofInt v2) (rv2 : inR v2) (hR : RC w y g n m) : Rf (fun a b => RI a b) (L_Y_formOf_2 1838 xv2 g) (NL_Y_formOf_2 v2 m) := by
  subst ev2
  unfold L_Y_formOf_2 NL_Y_formOf_2
  refine rf_it (I := (fun a b => RI a b)) (fun s t h => ?_) ⟨rfl, rv2⟩
  exact fb_Y_formOf_2 hy h.1 h.2 hR
theorem NL_Y_formOf_2_eq (v2 : Int) (m : YS) : NL_Y_formOf_2 v2 m = itc (nb_Y_formOf_2 v2 m) (fun s => NL_Y_formOf_2 s m) := it_eq2 (fun s : Int => nb_Y_formOf_2 s m) (v2)
noncomputable def N_Y_formOf (v1 : Int) (m : YS) : Option (Int) :=
  (NL_Y_formOf_2 v1 m).bind <| fun z1 =>
  some z1
theorem f_Y_formOf {w y : Prop} {g : g_S} {n : NS} {m : YS} (hy : y) {xv1 : Int32} {v1 : Int} (ev1 : xv1 = Int32.ofInt v1) (rv1 : inR v1) (hR : RC w y g n m) : Rf (fun a b => RI a b) (M_Y_formOf 1838 xv1 g) (N_Y_formOf v1 m) := by
  subst ev1
  unfold M_Y_formOf N_Y_formOf
  refine rf_bind (fL_Y_formOf_2 hy rfl rv1 hR) (fun a2 z1 h => ?_)
  obtain ⟨rfl, r3⟩ := (show RI a2 z1 from h)
  exact rf_ok (by exact ⟨rfl, r3⟩)
noncomputable def N_Y_ask (v1 : Int) (m : YS) : Option (YS) :=
  ix (m 183 0) 4000 <|
  st (yw m 182 (m 183 0) (Int.bmod v1 256)) fun m4 =>
  ck ((m4 183 0) + 1) <|
  st (yw m4 183 0 ((m4 183 0) + 1)) fun m10 =>
  some m10
theorem f_Y_ask {w y : Prop} {g : g_S} {n : NS} {m : YS} (hy : y) {xv1 : Int32} {v1 : Int} (ev1 : xv1 = Int32.ofInt v1) (rv1 : inR v1) (hR : RC w y g n m) : Rf (fun a b => RC w y a n b) (M_Y_ask 1838 xv1 g) (N_Y_ask v1 m) := by
  subst ev1
  unfold M_Y_ask N_Y_ask
  refine y_Q hR hy ya182.1 (by decide) ?_
  refine y_I hR hy yk183 yt183 (fun h2 => ?_)
  refine y_sB hR hy ya182 yl182 rfl h2 (e_b rfl) b_b (fun g6 m4 hR5 => ?_)
  refine y_I hR5 hy yk183 yt183 (fun h7 => ?_)
  refine rf_ck (fun h8 => ?_)
  refine y_pI hR5 hy yk183 ⟨yt183, yz183⟩ (e_add rfl (e_n 1)) h8 (fun g12 m10 hR11 => ?_)
  exact rf_ok (by exact hR11)
noncomputable def nb_Y_sendForm_332 (v3 : Int) (m : YS) : Option ((Int × YS) ⊕ (YS)) :=
  if v3 < (m 183 0) then
    if v3 < 40 then
      ix v3 4000 <|
      (N_Y_put 0 (m 182 v3) m).bind fun m8 =>
      ck (v3 + 1) <|
      some (.inl (v3 + 1, m8))
    else
      some (.inr m)
  else
    some (.inr m)
theorem fb_Y_sendForm_332 {w y : Prop} {g : g_S} {n : NS} {m : YS} (hy : y) {xv3 : Int32} {v3 : Int} (ev3 : xv3 = Int32.ofInt v3) (rv3 : inR v3) (hR : RC w y g n m) : Rf (RS (fun a b => RI a.1 b.1 ∧ RC w y a.2 n b.2) (fun a b => RC w y a n b)) (b_Y_sendForm_332 1838 xv3 g) (nb_Y_sendForm_332 v3 m) := by
  subst ev3
  unfold b_Y_sendForm_332 nb_Y_sendForm_332
  refine y_I hR hy yk183 yt183 (fun h1 => ?_)
  refine rf_lt rfl rfl rv3 h1 ?_ ?_
  · refine rf_lt rfl (e_n 40) rv3 (show inR 40 by decide) ?_ ?_
    · refine y_Q hR hy ya182.1 (by decide) ?_
      refine y_aB hR hy ya182 yl182 rfl rv3 (fun h5 h6 => ?_)
      refine v_c (y_gt hR hy) ?_
      refine rf_bind (f_Y_put hy (e_n 0) (show inR 0 by decide) rfl (inB.r h6) hR) (fun g10 m8 hR9 => ?_)
      refine rf_ck (fun h11 => ?_)
      exact rf_ok (by exact ⟨⟨(e_add rfl (e_n 1)), h11⟩, hR9⟩)
    · exact rf_ok (by exact hR)
  · exact rf_ok (by exact hR)
noncomputable def NL_Y_sendForm_332 (v3 : Int) (m : YS) : Option (YS) :=
  it (fun s : Int × YS => nb_Y_sendForm_332 s.1 s.2) (v3, m)
theorem fL_Y_sendForm_332 {w y : Prop} {g : g_S} {n : NS} {m : YS} (hy : y) {xv3 : Int32} {v3 : Int} (ev3 : xv3 = Int32.ofInt v3) (rv3 : inR v3) (hR : RC w y g n m) : Rf (fun a b => RC w y a n b) (L_Y_sendForm_332 1838 xv3 g) (NL_Y_sendForm_332 v3 m) := by
  subst ev3
  unfold L_Y_sendForm_332 NL_Y_sendForm_332
  refine rf_it (I := (fun a b => RI a.1 b.1 ∧ RC w y a.2 n b.2)) (fun s t h => ?_) ⟨⟨rfl, rv3⟩, hR⟩
  exact fb_Y_sendForm_332 hy h.1.1 h.1.2 h.2
theorem NL_Y_sendForm_332_eq (v3 : Int) (m : YS) : NL_Y_sendForm_332 v3 m = itc (nb_Y_sendForm_332 v3 m) (fun s => NL_Y_sendForm_332 s.1 s.2) := it_eq2 (fun s : Int × YS => nb_Y_sendForm_332 s.1 s.2) (v3, m)
noncomputable def nb_Y_sendForm_128 (v1 : Int) (v2 : Int) (v3 : Int) (v4 : Int) (v5 : Int) (m : YS) : Option ((Int × YS) ⊕ (YS)) :=
  ix v3 480 <|
  if v5 < (m 60 v3) then
    ck (60 * v3) <|
    ck ((60 * v3) + v5) <|
    ix ((60 * v3) + v5) 28800 <|
    (N_Y_ask (m 59 ((60 * v3) + v5)) m).bind fun m11 =>
    ck (v5 + 1) <|
    some (.inl (v5 + 1, m11))
  else
    some (.inr m)
theorem fb_Y_sendForm_128 {w y : Prop} {g : g_S} {n : NS} {m : YS} (hy : y) {xv1 : Int32} {v1 : Int} (ev1 : xv1 = Int32.ofInt v1) (rv1 : inR v1) {xv2 : Int32} {v2 : Int} (ev2 : xv2 = Int32.ofInt v2) (rv2 : inR v2) {xv3 : Int32} {v3 : Int} (ev3 : xv3 = Int32.ofInt v3) (rv3 : inR v3) {xv4 : Int32} {v4 : Int} (ev4 : xv4 = Int32.ofInt v4) (rv4 : inR v4) {xv5 : Int32} {v5 : Int} (ev5 : xv5 = Int32.ofInt v5) (rv5 : inR v5) (hR : RC w y g n m) : Rf (RS (fun a b => RI a.1 b.1 ∧ RC w y a.2 n b.2) (fun a b => RC w y a n b)) (b_Y_sendForm_128 1838 xv1 xv2 xv3 xv4 xv5 g) (nb_Y_sendForm_128 v1 v2 v3 v4 v5 m) := by
  subst ev1
  subst ev2
  subst ev3
  subst ev4
  subst ev5
  unfold b_Y_sendForm_128 nb_Y_sendForm_128
  refine y_Q hR hy ya60.1 (by decide) ?_
  refine y_aI hR hy ya60 yl60 rfl rv3 (fun h2 h3 => ?_)
  refine rf_lt rfl rfl rv5 h3 ?_ ?_
  · refine y_Q hR hy ya59.1 (by decide) ?_
    refine rf_ck (fun h6 => ?_)
    refine rf_ck (fun h7 => ?_)
    refine y_aB hR hy ya59 yl59 (e_add (e_mul (e_n 60) rfl) rfl) h7 (fun h8 h9 => ?_)
    refine v_c (y_gt hR hy) ?_
    refine rf_bind (f_Y_ask hy rfl (inB.r h9) hR) (fun g13 m11 hR12 => ?_)
    refine rf_ck (fun h14 => ?_)
    exact rf_ok (by exact ⟨⟨(e_add rfl (e_n 1)), h14⟩, hR12⟩)
  · exact rf_ok (by exact hR)
noncomputable def NL_Y_sendForm_128 (v1 : Int) (v2 : Int) (v3 : Int) (v4 : Int) (v5 : Int) (m : YS) : Option (YS) :=
  it (fun s : Int × YS => nb_Y_sendForm_128 v1 v2 v3 v4 s.1 s.2) (v5, m)
theorem fL_Y_sendForm_128 {w y : Prop} {g : g_S} {n : NS} {m : YS} (hy : y) {xv1 : Int32} {v1 : Int} (ev1 : xv1 = Int32.ofInt v1) (rv1 : inR v1) {xv2 : Int32} {v2 : Int} (ev2 : xv2 = Int32.ofInt v2) (rv2 : inR v2) {xv3 : Int32} {v3 : Int} (ev3 : xv3 = Int32.ofInt v3) (rv3 : inR v3) {xv4 : Int32} {v4 : Int} (ev4 : xv4 = Int32.ofInt v4) (rv4 : inR v4) {xv5 : Int32} {v5 : Int} (ev5 : xv5 = Int32.ofInt v5) (rv5 : inR v5) (hR : RC w y g n m) : Rf (fun a b => RC w y a n b) (L_Y_sendForm_128 1838 xv1 xv2 xv3 xv4 xv5 g) (NL_Y_sendForm_128 v1 v2 v3 v4 v5 m) := by
  subst ev1
  subst ev2
  subst ev3
  subst ev4
  subst ev5
  unfold L_Y_sendForm_128 NL_Y_sendForm_128
  refine rf_it (I := (fun a b => RI a.1 b.1 ∧ RC w y a.2 n b.2)) (fun s t h => ?_) ⟨⟨rfl, rv5⟩, hR⟩
  exact fb_Y_sendForm_128 hy rfl rv1 rfl rv2 rfl rv3 rfl rv4 h.1.1 h.1.2 h.2
theorem NL_Y_sendForm_128_eq (v1 : Int) (v2 : Int) (v3 : Int) (v4 : Int) (v5 : Int) (m : YS) : NL_Y_sendForm_128 v1 v2 v3 v4 v5 m = itc (nb_Y_sendForm_128 v1 v2 v3 v4 v5 m) (fun s => NL_Y_sendForm_128 v1 v2 v3 v4 s.1 s.2) := it_eq2 (fun s : Int × YS => nb_Y_sendForm_128 v1 v2 v3 v4 s.1 s.2) (v5, m)
noncomputable def nb_Y_sendForm_190 (v1 : Int) (v2 : Int) (v5 : Int) (m : YS) : Option ((Int × YS) ⊕ (YS)) :=
  ix v2 120 <|
  if v5 < (m 65 v2) then
    ck (24 * v2) <|
    ck ((24 * v2) + v5) <|
    ix ((24 * v2) + v5) 2880 <|
    (N_Y_isSegment (m 64 ((24 * v2) + v5)) m).bind fun z11 =>
    if z11 = 0 then
      if (m 64 ((24 * v2) + v5)) = 32 then
        (N_Y_ask 43 m).bind fun m17 =>
        ck (v5 + 1) <|
        some (.inl (v5 + 1, m17))
      else
        ck (v5 + 1) <|
        some (.inl (v5 + 1, m))
    else
      (N_Y_ask (m 64 ((24 * v2) + v5)) m).bind fun m23 =>
      ck (v5 + 1) <|
      some (.inl (v5 + 1, m23))
  else
    some (.inr m)
theorem fb_Y_sendForm_190 {w y : Prop} {g : g_S} {n : NS} {m : YS} (hy : y) {xv1 : Int32} {v1 : Int} (ev1 : xv1 = Int32.ofInt v1) (rv1 : inR v1) {xv2 : Int32} {v2 : Int} (ev2 : xv2 = Int32.ofInt v2) (rv2 : inR v2) {xv5 : Int32} {v5 : Int} (ev5 : xv5 = Int32.ofInt v5) (rv5 : inR v5) (hR : RC w y g n m) : Rf (RS (fun a b => RI a.1 b.1 ∧ RC w y a.2 n b.2) (fun a b => RC w y a n b)) (b_Y_sendForm_190 1838 xv1 xv2 xv5 g) (nb_Y_sendForm_190 v1 v2 v5 m) := by
  subst ev1
  subst ev2
  subst ev5
  unfold b_Y_sendForm_190 nb_Y_sendForm_190
  refine y_Q hR hy ya65.1 (by decide) ?_
  refine y_aI hR hy ya65 yl65 rfl rv2 (fun h2 h3 => ?_)
  refine rf_lt rfl rfl rv5 h3 ?_ ?_
  · refine y_Q hR hy ya64.1 (by decide) ?_
    refine rf_ck (fun h6 => ?_)
    refine rf_ck (fun h7 => ?_)
    refine y_aB hR hy ya64 yl64 (e_add (e_mul (e_n 24) rfl) rfl) h7 (fun h8 h9 => ?_)
    refine rf_bind (f_Y_isSegment hy rfl (inB.r h9) hR) (fun a13 z11 h => ?_)
    obtain ⟨rfl, r12⟩ := h
    refine rf_eq rfl (e_n 0) (inZ.r r12) (show inR 0 by decide) ?_ ?_
    · refine rf_eq rfl (e_n 32) (inB.r h9) (show inR 32 by decide) ?_ ?_
      · refine v_c (y_gt hR hy) ?_
        refine rf_bind (f_Y_ask hy (e_n 43) (show inR 43 by decide) hR) (fun g19 m17 hR18 => ?_)
        refine rf_ck (fun h20 => ?_)
        exact rf_ok (by exact ⟨⟨(e_add rfl (e_n 1)), h20⟩, hR18⟩)
      · refine rf_ck (fun h21 => ?_)
        exact rf_ok (by exact ⟨⟨(e_add rfl (e_n 1)), h21⟩, hR⟩)
    · refine v_c (y_gt hR hy) ?_
      refine rf_bind (f_Y_ask hy rfl (inB.r h9) hR) (fun g25 m23 hR24 => ?_)
      refine rf_ck (fun h26 => ?_)
      exact rf_ok (by exact ⟨⟨(e_add rfl (e_n 1)), h26⟩, hR24⟩)
  · exact rf_ok (by exact hR)
noncomputable def NL_Y_sendForm_190 (v1 : Int) (v2 : Int) (v5 : Int) (m : YS) : Option (YS) :=
  it (fun s : Int × YS => nb_Y_sendForm_190 v1 v2 s.1 s.2) (v5, m)
theorem fL_Y_sendForm_190 {w y : Prop} {g : g_S} {n : NS} {m : YS} (hy : y) {xv1 : Int32} {v1 : Int} (ev1 : xv1 = Int32.ofInt v1) (rv1 : inR v1) {xv2 : Int32} {v2 : Int} (ev2 : xv2 = Int32.ofInt v2) (rv2 : inR v2) {xv5 : Int32} {v5 : Int} (ev5 : xv5 = Int32.ofInt v5) (rv5 : inR v5) (hR : RC w y g n m) : Rf (fun a b => RC w y a n b) (L_Y_sendForm_190 1838 xv1 xv2 xv5 g) (NL_Y_sendForm_190 v1 v2 v5 m) := by
  subst ev1
  subst ev2
  subst ev5
  unfold L_Y_sendForm_190 NL_Y_sendForm_190
  refine rf_it (I := (fun a b => RI a.1 b.1 ∧ RC w y a.2 n b.2)) (fun s t h => ?_) ⟨⟨rfl, rv5⟩, hR⟩
  exact fb_Y_sendForm_190 hy rfl rv1 rfl rv2 h.1.1 h.1.2 h.2
theorem NL_Y_sendForm_190_eq (v1 : Int) (v2 : Int) (v5 : Int) (m : YS) : NL_Y_sendForm_190 v1 v2 v5 m = itc (nb_Y_sendForm_190 v1 v2 v5 m) (fun s => NL_Y_sendForm_190 v1 v2 s.1 s.2) := it_eq2 (fun s : Int × YS => nb_Y_sendForm_190 v1 v2 s.1 s.2) (v5, m)
noncomputable def nk_Y_sendForm_251 (v1 : Int) (v2 : Int) (m : YS) : Option ((Int × YS) ⊕ (YS)) :=
  (N_Y_after v2 v1 m).bind fun z2 =>
  some (.inl (z2, m))
theorem fk_Y_sendForm_251 {w y : Prop} {g : g_S} {n : NS} {m : YS} (hy : y) {xv1 : Int32} {v1 : Int} (ev1 : xv1 = Int32.ofInt v1) (rv1 : inR v1) {xv2 : Int32} {v2 : Int} (ev2 : xv2 = Int32.ofInt v2) (rv2 : inR v2) (hR : RC w y g n m) : Rf (RS (fun a b => RI a.1 b.1 ∧ RC w y a.2 n b.2) (fun a b => RC w y a n b)) (k_Y_sendForm_251 1838 xv1 xv2 g) (nk_Y_sendForm_251 v1 v2 m) := by
  subst ev1
  subst ev2
  unfold k_Y_sendForm_251 nk_Y_sendForm_251
  refine v_c (y_gt hR hy) ?_
  refine rf_bind (f_Y_after hy rfl rv2 rfl rv1 hR) (fun a4 z2 h => ?_)
  obtain ⟨rfl, r3⟩ := h
  exact rf_ok (by exact ⟨⟨rfl, r3⟩, hR⟩)
noncomputable def nk_Y_sendForm_125 (v1 : Int) (v2 : Int) (v3 : Int) (v4 : Int) (m : YS) : Option ((Int × YS) ⊕ (YS)) :=
  (NL_Y_sendForm_128 v1 v2 v3 v4 0 m).bind <| fun m1 =>
  (N_Y_ask 61 m1).bind fun m5 =>
  if v4 = 0 then
    (NL_Y_sendForm_190 v1 v2 0 m5).bind <| fun m9 =>
    nk_Y_sendForm_251 v1 v2 m9
  else
    (N_Y_ask 111 m5).bind fun m13 =>
    (N_Y_ask 110 m13).bind fun m17 =>
    nk_Y_sendForm_251 v1 v2 m17
theorem fk_Y_sendForm_125 {w y : Prop} {g : g_S} {n : NS} {m : YS} (hy : y) {xv1 : Int32} {v1 : Int} (ev1 : xv1 = Int32.ofInt v1) (rv1 : inR v1) {xv2 : Int32} {v2 : Int} (ev2 : xv2 = Int32.ofInt v2) (rv2 : inR v2) {xv3 : Int32} {v3 : Int} (ev3 : xv3 = Int32.ofInt v3) (rv3 : inR v3) {xv4 : Int32} {v4 : Int} (ev4 : xv4 = Int32.ofInt v4) (rv4 : inR v4) (hR : RC w y g n m) : Rf (RS (fun a b => RI a.1 b.1 ∧ RC w y a.2 n b.2) (fun a b => RC w y a n b)) (k_Y_sendForm_125 1838 xv1 xv2 xv3 xv4 g) (nk_Y_sendForm_125 v1 v2 v3 v4 m) := by
  subst ev1
  subst ev2
  subst ev3
  subst ev4
  unfold k_Y_sendForm_125 nk_Y_sendForm_125
  refine rf_bind (fL_Y_sendForm_128 hy rfl rv1 rfl rv2 rfl rv3 rfl rv4 (e_n 0) (show inR 0 by decide) hR) (fun a2 m1 h => ?_)
  have hR3 : RC w y a2 n m1 := h
  refine v_c (y_gt hR3 hy) ?_
  refine rf_bind (f_Y_ask hy (e_n 61) (show inR 61 by decide) hR3) (fun g7 m5 hR6 => ?_)
  refine rf_eq rfl (e_n 0) rv4 (show inR 0 by decide) ?_ ?_
  · refine rf_bind (fL_Y_sendForm_190 hy rfl rv1 rfl rv2 (e_n 0) (show inR 0 by decide) hR6) (fun a10 m9 h => ?_)
    have hR11 : RC w y a10 n m9 := h
    exact fk_Y_sendForm_251 hy rfl rv1 rfl rv2 hR11
  · refine v_c (y_gt hR6 hy) ?_
    refine rf_bind (f_Y_ask hy (e_n 111) (show inR 111 by decide) hR6) (fun g15 m13 hR14 => ?_)
    refine v_c (y_gt hR14 hy) ?_
    refine rf_bind (f_Y_ask hy (e_n 110) (show inR 110 by decide) hR14) (fun g19 m17 hR18 => ?_)
    exact fk_Y_sendForm_251 hy rfl rv1 rfl rv2 hR18
noncomputable def nk_Y_sendForm_112 (v1 : Int) (v2 : Int) (v3 : Int) (v4 : Int) (m : YS) : Option ((Int × YS) ⊕ (YS)) :=
  if 0 < (m 183 0) then
    (N_Y_ask 38 m).bind fun m4 =>
    nk_Y_sendForm_125 v1 v2 v3 v4 m4
  else
    nk_Y_sendForm_125 v1 v2 v3 v4 m
theorem fk_Y_sendForm_112 {w y : Prop} {g : g_S} {n : NS} {m : YS} (hy : y) {xv1 : Int32} {v1 : Int} (ev1 : xv1 = Int32.ofInt v1) (rv1 : inR v1) {xv2 : Int32} {v2 : Int} (ev2 : xv2 = Int32.ofInt v2) (rv2 : inR v2) {xv3 : Int32} {v3 : Int} (ev3 : xv3 = Int32.ofInt v3) (rv3 : inR v3) {xv4 : Int32} {v4 : Int} (ev4 : xv4 = Int32.ofInt v4) (rv4 : inR v4) (hR : RC w y g n m) : Rf (RS (fun a b => RI a.1 b.1 ∧ RC w y a.2 n b.2) (fun a b => RC w y a n b)) (k_Y_sendForm_112 1838 xv1 xv2 xv3 xv4 g) (nk_Y_sendForm_112 v1 v2 v3 v4 m) := by
  subst ev1
  subst ev2
  subst ev3
  subst ev4
  unfold k_Y_sendForm_112 nk_Y_sendForm_112
  refine y_I hR hy yk183 yt183 (fun h1 => ?_)
  refine rf_lt (e_n 0) rfl (show inR 0 by decide) h1 ?_ ?_
  · refine v_c (y_gt hR hy) ?_
    refine rf_bind (f_Y_ask hy (e_n 38) (show inR 38 by decide) hR) (fun g6 m4 hR5 => ?_)
    exact fk_Y_sendForm_125 hy rfl rv1 rfl rv2 rfl rv3 rfl rv4 hR5
  · exact fk_Y_sendForm_125 hy rfl rv1 rfl rv2 rfl rv3 rfl rv4 hR
noncomputable def nb_Y_sendForm_7 (v1 : Int) (v2 : Int) (m : YS) : Option ((Int × YS) ⊕ (YS)) :=
  if v2 = (-1) then
    some (.inr m)
  else
    ix v2 120 <|
    if (m 46 v2) = 13 then
      (N_Y_attributeOf v2 177198 m).bind fun z8 =>
      if z8 = (-1) then
        nk_Y_sendForm_251 v1 v2 m
      else
        ix z8 480 <|
        if (m 60 z8) = 0 then
          nk_Y_sendForm_251 v1 v2 m
        else
          ck (60 * z8) <|
          ck (60 * z8) <|
          ix z8 480 <|
          ck ((60 * z8) + (m 60 z8)) <|
          (N_Y_nameEnd 59 (60 * z8) ((60 * z8) + (m 60 z8)) m).bind fun z24 =>
          ck (60 * z8) <|
          ix z8 480 <|
          ck ((60 * z8) + (m 60 z8)) <|
          if z24 = ((60 * z8) + (m 60 z8)) then
            (N_Y_isCheck v2 m).bind fun z34 =>
            if z34 = 0 then
              nk_Y_sendForm_112 v1 v2 z8 z34 m
            else
              ix v2 120 <|
              if (m 66 v2) = 0 then
                nk_Y_sendForm_251 v1 v2 m
              else
                nk_Y_sendForm_112 v1 v2 z8 z34 m
          else
            nk_Y_sendForm_251 v1 v2 m
    else
      nk_Y_sendForm_251 v1 v2 m
theorem fb_Y_sendForm_7 {w y : Prop} {g : g_S} {n : NS} {m : YS} (hy : y) {xv1 : Int32} {v1 : Int} (ev1 : xv1 = Int32.ofInt v1) (rv1 : inR v1) {xv2 : Int32} {v2 : Int} (ev2 : xv2 = Int32.ofInt v2) (rv2 : inR v2) (hR : RC w y g n m) : Rf (RS (fun a b => RI a.1 b.1 ∧ RC w y a.2 n b.2) (fun a b => RC w y a n b)) (b_Y_sendForm_7 1838 xv1 xv2 g) (nb_Y_sendForm_7 v1 v2 m) := by
  subst ev1
  subst ev2
  unfold b_Y_sendForm_7 nb_Y_sendForm_7
  refine rf_eq rfl (e_m 1) rv2 (show inR (-1) by decide) ?_ ?_
  · exact rf_ok (by exact hR)
  · refine y_Q hR hy ya46.1 (by decide) ?_
    refine y_aI hR hy ya46 yl46 rfl rv2 (fun h3 h4 => ?_)
    refine rf_eq rfl (e_n 13) h4 (show inR 13 by decide) ?_ ?_
    · refine v_c (y_gt hR hy) ?_
      refine rf_bind (f_Y_attributeOf hy rfl rv2 (f_n 177198) (show inL 177198 by decide) hR) (fun a10 z8 h => ?_)
      obtain ⟨rfl, r9⟩ := h
      refine rf_eq rfl (e_m 1) r9 (show inR (-1) by decide) ?_ ?_
      · exact fk_Y_sendForm_251 hy rfl rv1 rfl rv2 hR
      · refine y_Q hR hy ya60.1 (by decide) ?_
        refine y_aI hR hy ya60 yl60 rfl r9 (fun h13 h14 => ?_)
        refine rf_eq rfl (e_n 0) h14 (show inR 0 by decide) ?_ ?_
        · exact fk_Y_sendForm_251 hy rfl rv1 rfl rv2 hR
        · refine y_Q hR hy ya59.1 (by decide) ?_
          refine rf_ck (fun h17 => ?_)
          refine rf_ck (fun h18 => ?_)
          refine y_Q hR hy ya60.1 (by decide) ?_
          refine y_aI hR hy ya60 yl60 rfl r9 (fun h20 h21 => ?_)
          refine rf_ck (fun h22 => ?_)
          refine rf_bind (f_Y_nameEnd hy rfl ya59 (e_mul (e_n 60) rfl) h17 (e_add (e_mul (e_n 60) rfl) rfl) h22 hR) (fun a26 z24 h => ?_)
          obtain ⟨rfl, r25⟩ := h
          refine rf_ck (fun h27 => ?_)
          refine y_Q hR hy ya60.1 (by decide) ?_
          refine y_aI hR hy ya60 yl60 rfl r9 (fun h29 h30 => ?_)
          refine rf_ck (fun h31 => ?_)
          refine rf_eq rfl (e_add (e_mul (e_n 60) rfl) rfl) r25 h31 ?_ ?_
          · refine v_c (y_gt hR hy) ?_
            refine rf_bind (f_Y_isCheck hy rfl rv2 hR) (fun a36 z34 h => ?_)
            obtain ⟨rfl, r35⟩ := h
            refine rf_eq rfl (e_n 0) (inZ.r r35) (show inR 0 by decide) ?_ ?_
            · exact fk_Y_sendForm_112 hy rfl rv1 rfl rv2 rfl r9 rfl (inZ.r r35) hR
            · refine y_Q hR hy ya66.1 (by decide) ?_
              refine y_aZ hR hy ya66 yl66 rfl rv2 (fun h39 h40 => ?_)
              refine rf_eq rfl (e_n 0) (inZ.r h40) (show inR 0 by decide) ?_ ?_
              · exact fk_Y_sendForm_251 hy rfl rv1 rfl rv2 hR
              · exact fk_Y_sendForm_112 hy rfl rv1 rfl rv2 rfl r9 rfl (inZ.r r35) hR
          · exact fk_Y_sendForm_251 hy rfl rv1 rfl rv2 hR
    · exact fk_Y_sendForm_251 hy rfl rv1 rfl rv2 hR
noncomputable def NL_Y_sendForm_7 (v1 : Int) (v2 : Int) (m : YS) : Option (YS) :=
  it (fun s : Int × YS => nb_Y_sendForm_7 v1 s.1 s.2) (v2, m)
theorem fL_Y_sendForm_7 {w y : Prop} {g : g_S} {n : NS} {m : YS} (hy : y) {xv1 : Int32} {v1 : Int} (ev1 : xv1 = Int32.ofInt v1) (rv1 : inR v1) {xv2 : Int32} {v2 : Int} (ev2 : xv2 = Int32.ofInt v2) (rv2 : inR v2) (hR : RC w y g n m) : Rf (fun a b => RC w y a n b) (L_Y_sendForm_7 1838 xv1 xv2 g) (NL_Y_sendForm_7 v1 v2 m) := by
  subst ev1
  subst ev2
  unfold L_Y_sendForm_7 NL_Y_sendForm_7
  refine rf_it (I := (fun a b => RI a.1 b.1 ∧ RC w y a.2 n b.2)) (fun s t h => ?_) ⟨⟨rfl, rv2⟩, hR⟩
  exact fb_Y_sendForm_7 hy rfl rv1 h.1.1 h.1.2 h.2
theorem NL_Y_sendForm_7_eq (v1 : Int) (v2 : Int) (m : YS) : NL_Y_sendForm_7 v1 v2 m = itc (nb_Y_sendForm_7 v1 v2 m) (fun s => NL_Y_sendForm_7 v1 s.1 s.2) := it_eq2 (fun s : Int × YS => nb_Y_sendForm_7 v1 s.1 s.2) (v2, m)
noncomputable def nk_Y_sendForm_363 (m : YS) : Option (YS) :=
  (N_Y_visitResult m).bind fun m2 =>
  some m2
theorem fk_Y_sendForm_363 {w y : Prop} {g : g_S} {n : NS} {m : YS} (hy : y) (hR : RC w y g n m) : Rf (fun a b => RC w y a n b) (k_Y_sendForm_363 1838 g) (nk_Y_sendForm_363 m) := by
  unfold k_Y_sendForm_363 nk_Y_sendForm_363
  refine v_c (y_gt hR hy) ?_
  refine rf_bind (f_Y_visitResult hy hR) (fun g4 m2 hR3 => ?_)
  exact rf_ok (by exact hR3)
noncomputable def nk_Y_sendForm_312 (m : YS) : Option (YS) :=
  (N_Y_queryAt 0 m).bind fun z3 =>
  ix 0 66 <|
  st (yw m 7 0 z3) fun m7 =>
  (N_Y_put 0 63 m7).bind fun m11 =>
  (NL_Y_sendForm_332 0 m11).bind <| fun m14 =>
  nk_Y_sendForm_363 m14
theorem fk_Y_sendForm_312 {w y : Prop} {g : g_S} {n : NS} {m : YS} (hy : y) (hR : RC w y g n m) : Rf (fun a b => RC w y a n b) (k_Y_sendForm_312 1838 g) (nk_Y_sendForm_312 m) := by
  unfold k_Y_sendForm_312 nk_Y_sendForm_312
  refine y_Q hR hy ya7.1 (by decide) ?_
  refine v_c (y_gt hR hy) ?_
  refine rf_bind (f_Y_queryAt hy (e_n 0) (show inR 0 by decide) hR) (fun a5 z3 h => ?_)
  obtain ⟨rfl, r4⟩ := h
  refine y_sI hR hy ya7 yl7 (e_n 0) (show inR 0 by decide) rfl r4 (fun g9 m7 hR8 => ?_)
  refine v_c (y_gt hR8 hy) ?_
  refine rf_bind (f_Y_put hy (e_n 0) (show inR 0 by decide) (e_n 63) (show inR 63 by decide) hR8) (fun g13 m11 hR12 => ?_)
  refine rf_bind (fL_Y_sendForm_332 hy (e_n 0) (show inR 0 by decide) hR12) (fun a15 m14 h => ?_)
  have hR16 : RC w y a15 n m14 := h
  exact fk_Y_sendForm_363 hy hR16
noncomputable def N_Y_sendForm (v1 : Int) (m : YS) : Option (YS) :=
  st (yw m 183 0 0) fun m2 =>
  (NL_Y_sendForm_7 v1 v1 m2).bind <| fun m5 =>
  (N_Y_attributeOf v1 485806177 m5).bind fun z10 =>
  if z10 = (-1) then
    (N_Y_copyRow 0 1 m5).bind fun m15 =>
    nk_Y_sendForm_312 m15
  else
    ck (60 * z10) <|
    ck (60 * z10) <|
    ix z10 480 <|
    ck ((60 * z10) + (m5 60 z10)) <|
    (N_Y_refer 59 (60 * z10) ((60 * z10) + (m5 60 z10)) 1 m5).bind <| u2 fun z26 m29 =>
    if z26 = 0 then
      some m29
    else
      nk_Y_sendForm_312 m29
theorem f_Y_sendForm {w y : Prop} {g : g_S} {n : NS} {m : YS} (hy : y) {xv1 : Int32} {v1 : Int} (ev1 : xv1 = Int32.ofInt v1) (rv1 : inR v1) (hR : RC w y g n m) : Rf (fun a b => RC w y a n b) (M_Y_sendForm 1838 xv1 g) (N_Y_sendForm v1 m) := by
  subst ev1
  unfold M_Y_sendForm N_Y_sendForm
  refine y_pI hR hy yk183 ⟨yt183, yz183⟩ (e_n 0) (show inR 0 by decide) (fun g4 m2 hR3 => ?_)
  refine rf_bind (fL_Y_sendForm_7 hy rfl rv1 rfl rv1 hR3) (fun a6 m5 h => ?_)
  have hR7 : RC w y a6 n m5 := h
  refine v_c (y_gt hR7 hy) ?_
  refine rf_bind (f_Y_attributeOf hy rfl rv1 (f_n 485806177) (show inL 485806177 by decide) hR7) (fun a12 z10 h => ?_)
  obtain ⟨rfl, r11⟩ := h
  refine rf_eq rfl (e_m 1) r11 (show inR (-1) by decide) ?_ ?_
  · refine v_c (y_gt hR7 hy) ?_
    refine rf_bind (f_Y_copyRow hy (e_n 0) (show inR 0 by decide) (e_n 1) (show inR 1 by decide) hR7) (fun g17 m15 hR16 => ?_)
    exact fk_Y_sendForm_312 hy hR16
  · refine y_Q hR7 hy ya59.1 (by decide) ?_
    refine rf_ck (fun h19 => ?_)
    refine rf_ck (fun h20 => ?_)
    refine y_Q hR7 hy ya60.1 (by decide) ?_
    refine y_aI hR7 hy ya60 yl60 rfl r11 (fun h22 h23 => ?_)
    refine rf_ck (fun h24 => ?_)
    refine v_c2 (y_gt hR7 hy) ?_
    refine rf_c2 (f_Y_refer hy rfl ya59 (e_mul (e_n 60) rfl) h19 (e_add (e_mul (e_n 60) rfl) rfl) h24 (e_n 1) (show inR 1 by decide) hR7) (fun a28 g31 b h => ?_)
    obtain ⟨z26, m29⟩ := b
    refine rf_v2 ?_
    obtain ⟨rfl, r27⟩ := (show RZ a28 z26 from h.1)
    have hR30 : RC w y g31 n m29 := h.2
    refine rf_eq rfl (e_n 0) (inZ.r r27) (show inR 0 by decide) ?_ ?_
    · exact rf_ok (by exact hR30)
    · exact fk_Y_sendForm_312 hy hR30
noncomputable def nk_Y_pressed_211 (v1 : Int) (v2 : Int) (v3 : Int) (v5 : Int) (m : YS) : Option ((Int × Int × YS) ⊕ (YS)) :=
  ix v3 120 <|
  if (m 46 v3) = 13 then
    st (yw m 150 0 v3) fun m6 =>
    ix v3 120 <|
    st (yw m6 151 0 (m6 55 v3)) fun m13 =>
    ck (v2 + 1) <|
    some (.inl (v1, v2 + 1, m13))
  else
    if v5 = (-1) then
      ck (v2 + 1) <|
      some (.inl (v1, v2 + 1, m))
    else
      (N_Y_sendForm v5 m).bind fun m20 =>
      ck (v2 + 1) <|
      some (.inl (v1, v2 + 1, m20))
theorem fk_Y_pressed_211 {w y : Prop} {g : g_S} {n : NS} {m : YS} (hy : y) {xv1 : Int32} {v1 : Int} (ev1 : xv1 = Int32.ofInt v1) (rv1 : inR v1) {xv2 : Int32} {v2 : Int} (ev2 : xv2 = Int32.ofInt v2) (rv2 : inR v2) {xv3 : Int32} {v3 : Int} (ev3 : xv3 = Int32.ofInt v3) (rv3 : inR v3) {xv5 : Int32} {v5 : Int} (ev5 : xv5 = Int32.ofInt v5) (rv5 : inR v5) (hR : RC w y g n m) : Rf (RS (fun a b => RI a.1 b.1 ∧ RI a.2.1 b.2.1 ∧ RC w y a.2.2 n b.2.2) (fun a b => RC w y a n b)) (k_Y_pressed_211 1838 xv1 xv2 xv3 xv5 g) (nk_Y_pressed_211 v1 v2 v3 v5 m) := by
  subst ev1
  subst ev2
  subst ev3
  subst ev5
  unfold k_Y_pressed_211 nk_Y_pressed_211
  refine y_Q hR hy ya46.1 (by decide) ?_
  refine y_aI hR hy ya46 yl46 rfl rv3 (fun h2 h3 => ?_)
  refine rf_eq rfl (e_n 13) h3 (show inR 13 by decide) ?_ ?_
  · refine y_pI hR hy yk150 ⟨yt150, yz150⟩ rfl rv3 (fun g8 m6 hR7 => ?_)
    refine y_Q hR7 hy ya55.1 (by decide) ?_
    refine y_aI hR7 hy ya55 yl55 rfl rv3 (fun h10 h11 => ?_)
    refine y_pI hR7 hy yk151 ⟨yt151, yz151⟩ rfl h11 (fun g15 m13 hR14 => ?_)
    refine rf_ck (fun h16 => ?_)
    exact rf_ok (by exact ⟨⟨rfl, rv1⟩, ⟨(e_add rfl (e_n 1)), h16⟩, hR14⟩)
  · refine rf_eq rfl (e_m 1) rv5 (show inR (-1) by decide) ?_ ?_
    · refine rf_ck (fun h18 => ?_)
      exact rf_ok (by exact ⟨⟨rfl, rv1⟩, ⟨(e_add rfl (e_n 1)), h18⟩, hR⟩)
    · refine v_c (y_gt hR hy) ?_
      refine rf_bind (f_Y_sendForm hy rfl rv5 hR) (fun g22 m20 hR21 => ?_)
      refine rf_ck (fun h23 => ?_)
      exact rf_ok (by exact ⟨⟨rfl, rv1⟩, ⟨(e_add rfl (e_n 1)), h23⟩, hR21⟩)
noncomputable def nk_Y_pressed_207 (v1 : Int) (v2 : Int) (w0 : Int) (w1 : Int) (m : YS) : Option ((Int × Int × YS) ⊕ (YS)) :=
  cz w0 <|
  ix w1 120 <|
  st (yw m 66 w1 w0) fun m3 =>
  ck (v2 + 1) <|
  some (.inl (v1, v2 + 1, m3))
theorem fk_Y_pressed_207 {w y : Prop} {g : g_S} {n : NS} {m : YS} (hy : y) {xv1 : Int32} {v1 : Int} (ev1 : xv1 = Int32.ofInt v1) (rv1 : inR v1) {xv2 : Int32} {v2 : Int} (ev2 : xv2 = Int32.ofInt v2) (rv2 : inR v2) {xw0 : Int32} {w0 : Int} (ew0 : xw0 = Int32.ofInt w0) (rw0 : inR w0) {xw1 : Int32} {w1 : Int} (ew1 : xw1 = Int32.ofInt w1) (rw1 : inR w1) (hR : RC w y g n m) : Rf (RS (fun a b => RI a.1 b.1 ∧ RI a.2.1 b.2.1 ∧ RC w y a.2.2 n b.2.2) (fun a b => RC w y a n b)) (k_Y_pressed_207 1838 xv1 xv2 xw0 xw1 (yAd 66) g) (nk_Y_pressed_207 v1 v2 w0 w1 m) := by
  subst ev1
  subst ev2
  subst ew0
  subst ew1
  unfold k_Y_pressed_207 nk_Y_pressed_207
  refine rf_cz (fun h2 => ?_)
  refine y_sZ hR hy ya66 yl66 rfl rw1 rfl h2 (fun g5 m3 hR4 => ?_)
  refine rf_ck (fun h6 => ?_)
  exact rf_ok (by exact ⟨⟨rfl, rv1⟩, ⟨(e_add rfl (e_n 1)), h6⟩, hR4⟩)
noncomputable def nk_Y_pressed_125 (v2 : Int) (v3 : Int) (v4 : Int) (v5 : Int) (w0 : Int) (m : YS) : Option ((Int × Int × YS) ⊕ (YS)) :=
  if v4 = (-1) then
    ix v3 120 <|
    if (m 46 v3) = 13 then
      (N_Y_isCheck v3 m).bind fun z7 =>
      if z7 = 0 then
        nk_Y_pressed_211 w0 v2 v3 v5 m
      else
        ix v3 120 <|
        if (m 66 v3) = 0 then
          nk_Y_pressed_207 w0 v2 1 v3 m
        else
          nk_Y_pressed_207 w0 v2 0 v3 m
    else
      nk_Y_pressed_211 w0 v2 v3 v5 m
  else
    ck (60 * v4) <|
    ck (60 * v4) <|
    ix v4 480 <|
    ck ((60 * v4) + (m 60 v4)) <|
    (N_Y_refer 59 (60 * v4) ((60 * v4) + (m 60 v4)) 1 m).bind <| u2 fun z24 m27 =>
    if z24 = 0 then
      ck (v2 + 1) <|
      some (.inl (w0, v2 + 1, m27))
    else
      (N_Y_visitResult m27).bind fun m33 =>
      ck (v2 + 1) <|
      some (.inl (w0, v2 + 1, m33))
theorem fk_Y_pressed_125 {w y : Prop} {g : g_S} {n : NS} {m : YS} (hy : y) {xv2 : Int32} {v2 : Int} (ev2 : xv2 = Int32.ofInt v2) (rv2 : inR v2) {xv3 : Int32} {v3 : Int} (ev3 : xv3 = Int32.ofInt v3) (rv3 : inR v3) {xv4 : Int32} {v4 : Int} (ev4 : xv4 = Int32.ofInt v4) (rv4 : inR v4) {xv5 : Int32} {v5 : Int} (ev5 : xv5 = Int32.ofInt v5) (rv5 : inR v5) {xw0 : Int32} {w0 : Int} (ew0 : xw0 = Int32.ofInt w0) (rw0 : inR w0) (hR : RC w y g n m) : Rf (RS (fun a b => RI a.1 b.1 ∧ RI a.2.1 b.2.1 ∧ RC w y a.2.2 n b.2.2) (fun a b => RC w y a n b)) (k_Y_pressed_125 1838 xv2 xv3 xv4 xv5 xw0 g) (nk_Y_pressed_125 v2 v3 v4 v5 w0 m) := by
  subst ev2
  subst ev3
  subst ev4
  subst ev5
  subst ew0
  unfold k_Y_pressed_125 nk_Y_pressed_125
  refine rf_eq rfl (e_m 1) rv4 (show inR (-1) by decide) ?_ ?_
  · refine y_Q hR hy ya46.1 (by decide) ?_
    refine y_aI hR hy ya46 yl46 rfl rv3 (fun h3 h4 => ?_)
    refine rf_eq rfl (e_n 13) h4 (show inR 13 by decide) ?_ ?_
    · refine v_c (y_gt hR hy) ?_
      refine rf_bind (f_Y_isCheck hy rfl rv3 hR) (fun a9 z7 h => ?_)
      obtain ⟨rfl, r8⟩ := h
      refine rf_eq rfl (e_n 0) (inZ.r r8) (show inR 0 by decide) ?_ ?_
      · exact fk_Y_pressed_211 hy rfl rw0 rfl rv2 rfl rv3 rfl rv5 hR
      · refine y_Q hR hy ya66.1 (by decide) ?_
        refine y_Q hR hy ya66.1 (by decide) ?_
        refine y_aZ hR hy ya66 yl66 rfl rv3 (fun h13 h14 => ?_)
        refine rf_eq rfl (e_n 0) (inZ.r h14) (show inR 0 by decide) ?_ ?_
        · exact fk_Y_pressed_207 hy rfl rw0 rfl rv2 (e_n 1) (show inR 1 by decide) rfl rv3 hR
        · exact fk_Y_pressed_207 hy rfl rw0 rfl rv2 (e_n 0) (show inR 0 by decide) rfl rv3 hR
    · exact fk_Y_pressed_211 hy rfl rw0 rfl rv2 rfl rv3 rfl rv5 hR
  · refine y_Q hR hy ya59.1 (by decide) ?_
    refine rf_ck (fun h17 => ?_)
    refine rf_ck (fun h18 => ?_)
    refine y_Q hR hy ya60.1 (by decide) ?_
    refine y_aI hR hy ya60 yl60 rfl rv4 (fun h20 h21 => ?_)
    refine rf_ck (fun h22 => ?_)
    refine v_c2 (y_gt hR hy) ?_
    refine rf_c2 (f_Y_refer hy rfl ya59 (e_mul (e_n 60) rfl) h17 (e_add (e_mul (e_n 60) rfl) rfl) h22 (e_n 1) (show inR 1 by decide) hR) (fun a26 g29 b h => ?_)
    obtain ⟨z24, m27⟩ := b
    refine rf_v2 ?_
    obtain ⟨rfl, r25⟩ := (show RZ a26 z24 from h.1)
    have hR28 : RC w y g29 n m27 := h.2
    refine rf_eq rfl (e_n 0) (inZ.r r25) (show inR 0 by decide) ?_ ?_
    · refine rf_ck (fun h31 => ?_)
      exact rf_ok (by exact ⟨⟨rfl, rw0⟩, ⟨(e_add rfl (e_n 1)), h31⟩, hR28⟩)
    · refine v_c (y_gt hR28 hy) ?_
      refine rf_bind (f_Y_visitResult hy hR28) (fun g35 m33 hR34 => ?_)
      refine rf_ck (fun h36 => ?_)
      exact rf_ok (by exact ⟨⟨rfl, rw0⟩, ⟨(e_add rfl (e_n 1)), h36⟩, hR34⟩)
noncomputable def nk_Y_pressed_120 (v2 : Int) (v3 : Int) (v4 : Int) (v5 : Int) (m : YS) : Option ((Int × Int × YS) ⊕ (YS)) :=
  nk_Y_pressed_125 v2 v3 v4 v5 1 m
theorem fk_Y_pressed_120 {w y : Prop} {g : g_S} {n : NS} {m : YS} (hy : y) {xv2 : Int32} {v2 : Int} (ev2 : xv2 = Int32.ofInt v2) (rv2 : inR v2) {xv3 : Int32} {v3 : Int} (ev3 : xv3 = Int32.ofInt v3) (rv3 : inR v3) {xv4 : Int32} {v4 : Int} (ev4 : xv4 = Int32.ofInt v4) (rv4 : inR v4) {xv5 : Int32} {v5 : Int} (ev5 : xv5 = Int32.ofInt v5) (rv5 : inR v5) (hR : RC w y g n m) : Rf (RS (fun a b => RI a.1 b.1 ∧ RI a.2.1 b.2.1 ∧ RC w y a.2.2 n b.2.2) (fun a b => RC w y a n b)) (k_Y_pressed_120 1838 xv2 xv3 xv4 xv5 g) (nk_Y_pressed_120 v2 v3 v4 v5 m) := by
  subst ev2
  subst ev3
  subst ev4
  subst ev5
  unfold k_Y_pressed_120 nk_Y_pressed_120
  exact fk_Y_pressed_125 hy rfl rv2 rfl rv3 rfl rv4 rfl rv5 (e_n 1) (show inR 1 by decide) hR
noncomputable def nk_Y_pressed_95 (v2 : Int) (v3 : Int) (v4 : Int) (w0 : Int) (m : YS) : Option ((Int × Int × YS) ⊕ (YS)) :=
  if v4 = (-1) then
    ix v3 120 <|
    if (m 46 v3) = 13 then
      nk_Y_pressed_120 v2 v3 v4 w0 m
    else
      if w0 = (-1) then
        nk_Y_pressed_125 v2 v3 v4 w0 0 m
      else
        nk_Y_pressed_120 v2 v3 v4 w0 m
  else
    nk_Y_pressed_120 v2 v3 v4 w0 m
theorem fk_Y_pressed_95 {w y : Prop} {g : g_S} {n : NS} {m : YS} (hy : y) {xv2 : Int32} {v2 : Int} (ev2 : xv2 = Int32.ofInt v2) (rv2 : inR v2) {xv3 : Int32} {v3 : Int} (ev3 : xv3 = Int32.ofInt v3) (rv3 : inR v3) {xv4 : Int32} {v4 : Int} (ev4 : xv4 = Int32.ofInt v4) (rv4 : inR v4) {xw0 : Int32} {w0 : Int} (ew0 : xw0 = Int32.ofInt w0) (rw0 : inR w0) (hR : RC w y g n m) : Rf (RS (fun a b => RI a.1 b.1 ∧ RI a.2.1 b.2.1 ∧ RC w y a.2.2 n b.2.2) (fun a b => RC w y a n b)) (k_Y_pressed_95 1838 xv2 xv3 xv4 xw0 g) (nk_Y_pressed_95 v2 v3 v4 w0 m) := by
  subst ev2
  subst ev3
  subst ev4
  subst ew0
  unfold k_Y_pressed_95 nk_Y_pressed_95
  refine rf_eq rfl (e_m 1) rv4 (show inR (-1) by decide) ?_ ?_
  · refine y_Q hR hy ya46.1 (by decide) ?_
    refine y_aI hR hy ya46 yl46 rfl rv3 (fun h3 h4 => ?_)
    refine rf_eq rfl (e_n 13) h4 (show inR 13 by decide) ?_ ?_
    · exact fk_Y_pressed_120 hy rfl rv2 rfl rv3 rfl rv4 rfl rw0 hR
    · refine rf_eq rfl (e_m 1) rw0 (show inR (-1) by decide) ?_ ?_
      · exact fk_Y_pressed_125 hy rfl rv2 rfl rv3 rfl rv4 rfl rw0 (e_n 0) (show inR 0 by decide) hR
      · exact fk_Y_pressed_120 hy rfl rv2 rfl rv3 rfl rv4 rfl rw0 hR
  · exact fk_Y_pressed_120 hy rfl rv2 rfl rv3 rfl rv4 rfl rw0 hR
noncomputable def nk_Y_pressed_73 (v2 : Int) (v3 : Int) (w0 : Int) (m : YS) : Option ((Int × Int × YS) ⊕ (YS)) :=
  ix v3 120 <|
  if (m 46 v3) = 14 then
    (N_Y_formOf v3 m).bind fun z6 =>
    nk_Y_pressed_95 v2 v3 w0 z6 m
  else
    nk_Y_pressed_95 v2 v3 w0 (-1) m
theorem fk_Y_pressed_73 {w y : Prop} {g : g_S} {n : NS} {m : YS} (hy : y) {xv2 : Int32} {v2 : Int} (ev2 : xv2 = Int32.ofInt v2) (rv2 : inR v2) {xv3 : Int32} {v3 : Int} (ev3 : xv3 = Int32.ofInt v3) (rv3 : inR v3) {xw0 : Int32} {w0 : Int} (ew0 : xw0 = Int32.ofInt w0) (rw0 : inR w0) (hR : RC w y g n m) : Rf (RS (fun a b => RI a.1 b.1 ∧ RI a.2.1 b.2.1 ∧ RC w y a.2.2 n b.2.2) (fun a b => RC w y a n b)) (k_Y_pressed_73 1838 xv2 xv3 xw0 g) (nk_Y_pressed_73 v2 v3 w0 m) := by
  subst ev2
  subst ev3
  subst ew0
  unfold k_Y_pressed_73 nk_Y_pressed_73
  refine y_Q hR hy ya46.1 (by decide) ?_
  refine y_aI hR hy ya46 yl46 rfl rv3 (fun h2 h3 => ?_)
  refine rf_eq rfl (e_n 14) h3 (show inR 14 by decide) ?_ ?_
  · refine v_c (y_gt hR hy) ?_
    refine rf_bind (f_Y_formOf hy rfl rv3 hR) (fun a8 z6 h => ?_)
    obtain ⟨rfl, r7⟩ := h
    exact fk_Y_pressed_95 hy rfl rv2 rfl rv3 rfl rw0 rfl r7 hR
  · exact fk_Y_pressed_95 hy rfl rv2 rfl rv3 rfl rw0 (e_m 1) (show inR (-1) by decide) hR
noncomputable def nb_Y_pressed_9 (v1 : Int) (v2 : Int) (m : YS) : Option ((Int × Int × YS) ⊕ (YS)) :=
  if v2 < (m 181 0) then
    if v1 = 0 then
      ix v2 120 <|
      (N_Y_isThere v2 m).bind fun z8 =>
      if z8 = 0 then
        ck (v2 + 1) <|
        some (.inl (v1, v2 + 1, m))
      else
        ix (m 179 v2) 120 <|
        if (m 46 (m 179 v2)) = 17 then
          ck (v2 + 1) <|
          some (.inl (v1, v2 + 1, m))
        else
          ix (m 179 v2) 120 <|
          if (m 46 (m 179 v2)) = 7 then
            (N_Y_attributeOf (m 179 v2) 202312 m).bind fun z24 =>
            nk_Y_pressed_73 v2 (m 179 v2) z24 m
          else
            nk_Y_pressed_73 v2 (m 179 v2) (-1) m
    else
      some (.inr m)
  else
    some (.inr m)
theorem fb_Y_pressed_9 {w y : Prop} {g : g_S} {n : NS} {m : YS} (hy : y) {xv1 : Int32} {v1 : Int} (ev1 : xv1 = Int32.ofInt v1) (rv1 : inR v1) {xv2 : Int32} {v2 : Int} (ev2 : xv2 = Int32.ofInt v2) (rv2 : inR v2) (hR : RC w y g n m) : Rf (RS (fun a b => RI a.1 b.1 ∧ RI a.2.1 b.2.1 ∧ RC w y a.2.2 n b.2.2) (fun a b => RC w y a n b)) (b_Y_pressed_9 1838 xv1 xv2 g) (nb_Y_pressed_9 v1 v2 m) := by
  subst ev1
  subst ev2
  unfold b_Y_pressed_9 nb_Y_pressed_9
  refine y_I hR hy yk181 yt181 (fun h1 => ?_)
  refine rf_lt rfl rfl rv2 h1 ?_ ?_
  · refine rf_eq rfl (e_n 0) rv1 (show inR 0 by decide) ?_ ?_
    · refine y_Q hR hy ya179.1 (by decide) ?_
      refine y_aI hR hy ya179 yl179 rfl rv2 (fun h5 h6 => ?_)
      refine v_c (y_gt hR hy) ?_
      refine rf_bind (f_Y_isThere hy rfl rv2 hR) (fun a10 z8 h => ?_)
      obtain ⟨rfl, r9⟩ := h
      refine rf_eq rfl (e_n 0) (inZ.r r9) (show inR 0 by decide) ?_ ?_
      · refine rf_ck (fun h12 => ?_)
        exact rf_ok (by exact ⟨⟨rfl, rv1⟩, ⟨(e_add rfl (e_n 1)), h12⟩, hR⟩)
      · refine y_Q hR hy ya46.1 (by decide) ?_
        refine y_aI hR hy ya46 yl46 rfl h6 (fun h14 h15 => ?_)
        refine rf_eq rfl (e_n 17) h15 (show inR 17 by decide) ?_ ?_
        · refine rf_ck (fun h17 => ?_)
          exact rf_ok (by exact ⟨⟨rfl, rv1⟩, ⟨(e_add rfl (e_n 1)), h17⟩, hR⟩)
        · refine y_Q hR hy ya46.1 (by decide) ?_
          refine y_aI hR hy ya46 yl46 rfl h6 (fun h19 h20 => ?_)
          refine rf_eq rfl (e_n 7) h20 (show inR 7 by decide) ?_ ?_
          · refine v_c (y_gt hR hy) ?_
            refine rf_bind (f_Y_attributeOf hy rfl h6 (f_n 202312) (show inL 202312 by decide) hR) (fun a26 z24 h => ?_)
            obtain ⟨rfl, r25⟩ := h
            exact fk_Y_pressed_73 hy rfl rv2 rfl h6 rfl r25 hR
          · exact fk_Y_pressed_73 hy rfl rv2 rfl h6 (e_m 1) (show inR (-1) by decide) hR
    · exact rf_ok (by exact hR)
  · exact rf_ok (by exact hR)
noncomputable def NL_Y_pressed_9 (v1 : Int) (v2 : Int) (m : YS) : Option (YS) :=
  it (fun s : Int × Int × YS => nb_Y_pressed_9 s.1 s.2.1 s.2.2) (v1, v2, m)
theorem fL_Y_pressed_9 {w y : Prop} {g : g_S} {n : NS} {m : YS} (hy : y) {xv1 : Int32} {v1 : Int} (ev1 : xv1 = Int32.ofInt v1) (rv1 : inR v1) {xv2 : Int32} {v2 : Int} (ev2 : xv2 = Int32.ofInt v2) (rv2 : inR v2) (hR : RC w y g n m) : Rf (fun a b => RC w y a n b) (L_Y_pressed_9 1838 xv1 xv2 g) (NL_Y_pressed_9 v1 v2 m) := by
  subst ev1
  subst ev2
  unfold L_Y_pressed_9 NL_Y_pressed_9
  refine rf_it (I := (fun a b => RI a.1 b.1 ∧ RI a.2.1 b.2.1 ∧ RC w y a.2.2 n b.2.2)) (fun s t h => ?_) ⟨⟨rfl, rv1⟩, ⟨rfl, rv2⟩, hR⟩
  exact fb_Y_pressed_9 hy h.1.1 h.1.2 h.2.1.1 h.2.1.2 h.2.2
theorem NL_Y_pressed_9_eq (v1 : Int) (v2 : Int) (m : YS) : NL_Y_pressed_9 v1 v2 m = itc (nb_Y_pressed_9 v1 v2 m) (fun s => NL_Y_pressed_9 s.1 s.2.1 s.2.2) := it_eq2 (fun s : Int × Int × YS => nb_Y_pressed_9 s.1 s.2.1 s.2.2) (v1, v2, m)
noncomputable def N_Y_pressed (m : YS) : Option (YS) :=
  st (yw m 150 0 (-1)) fun m2 =>
  (NL_Y_pressed_9 0 0 m2).bind <| fun m5 =>
  some m5
theorem f_Y_pressed {w y : Prop} {g : g_S} {n : NS} {m : YS} (hy : y) (hR : RC w y g n m) : Rf (fun a b => RC w y a n b) (M_Y_pressed 1838 g) (N_Y_pressed m) := by
  unfold M_Y_pressed N_Y_pressed
  refine y_pI hR hy yk150 ⟨yt150, yz150⟩ (e_m 1) (show inR (-1) by decide) (fun g4 m2 hR3 => ?_)
  refine rf_bind (fL_Y_pressed_9 hy (e_n 0) (show inR 0 by decide) (e_n 0) (show inR 0 by decide) hR3) (fun a6 m5 h => ?_)
  have hR7 : RC w y a6 n m5 := h
  exact rf_ok (by exact hR7)
noncomputable def nk_Y_press_47 (v3 : Int) (m : YS) : Option (Int × YS) :=
  (N_Y_settle m).bind fun m2 =>
  (N_Y_changed m2).bind fun m6 =>
  some (v3, m6)
theorem fk_Y_press_47 {w y : Prop} {g : g_S} {n : NS} {m : YS} (hy : y) {xv3 : Int32} {v3 : Int} (ev3 : xv3 = Int32.ofInt v3) (rv3 : inR v3) (hR : RC w y g n m) : Rf (fun a b => RI a.1 b.1 ∧ RC w y a.2 n b.2) (k_Y_press_47 1838 xv3 g) (nk_Y_press_47 v3 m) := by
  subst ev3
  unfold k_Y_press_47 nk_Y_press_47
  refine v_c (y_gt hR hy) ?_
  refine rf_bind (f_Y_settle hy hR) (fun g4 m2 hR3 => ?_)
  refine v_c (y_gt hR3 hy) ?_
  refine rf_bind (f_Y_changed hy hR3) (fun g8 m6 hR7 => ?_)
  exact rf_ok (by exact ⟨⟨rfl, rv3⟩, hR7⟩)
noncomputable def N_Y_press (v1 : Int) (v2 : Int) (m : YS) : Option (Int × YS) :=
  (N_Y_paint v1 v2 m).bind <| u2 fun z2 m5 =>
  if z2 = 0 then
    some ((-1), m5)
  else
    if (m5 147 0) = (-1) then
      some ((-1), m5)
    else
      (N_Y_begin m5).bind fun m15 =>
      (N_Y_wayUp (m5 147 0) m15).bind fun m19 =>
      (N_Y_goesUp 21044478415 m19).bind <| u2 fun z24 m27 =>
      if z24 = 0 then
        nk_Y_press_47 (m5 147 0) m27
      else
        (N_Y_pressed m27).bind fun m32 =>
        nk_Y_press_47 (m5 147 0) m32
theorem f_Y_press {w y : Prop} {g : g_S} {n : NS} {m : YS} (hy : y) {xv1 : Int32} {v1 : Int} (ev1 : xv1 = Int32.ofInt v1) (rv1 : inR v1) {xv2 : Int32} {v2 : Int} (ev2 : xv2 = Int32.ofInt v2) (rv2 : inR v2) (hR : RC w y g n m) : Rf (fun a b => RI a.1 b.1 ∧ RC w y a.2 n b.2) (M_Y_press 1838 xv1 xv2 g) (N_Y_press v1 v2 m) := by
  subst ev1
  subst ev2
  unfold M_Y_press N_Y_press
  refine v_c2 (y_gt hR hy) ?_
  refine rf_c2 (f_Y_paint hy rfl rv1 rfl rv2 hR) (fun a4 g7 b h => ?_)
  obtain ⟨z2, m5⟩ := b
  refine rf_v2 ?_
  obtain ⟨rfl, r3⟩ := (show RZ a4 z2 from h.1)
  have hR6 : RC w y g7 n m5 := h.2
  refine rf_eq rfl (e_n 0) (inZ.r r3) (show inR 0 by decide) ?_ ?_
  · exact rf_ok (by exact ⟨⟨(e_m 1), (show inR (-1) by decide)⟩, hR6⟩)
  · refine y_I hR6 hy yk147 yt147 (fun h10 => ?_)
    refine rf_eq rfl (e_m 1) h10 (show inR (-1) by decide) ?_ ?_
    · exact rf_ok (by exact ⟨⟨(e_m 1), (show inR (-1) by decide)⟩, hR6⟩)
    · refine y_I hR6 hy yk147 yt147 (fun h13 => ?_)
      refine v_c (y_gt hR6 hy) ?_
      refine rf_bind (f_Y_begin hy hR6) (fun g17 m15 hR16 => ?_)
      refine v_c (y_gt hR16 hy) ?_
      refine rf_bind (f_Y_wayUp hy rfl h13 hR16) (fun g21 m19 hR20 => ?_)
      refine v_c2 (y_gt hR20 hy) ?_
      refine rf_c2 (f_Y_goesUp hy (f_n 21044478415) (show inL 21044478415 by decide) hR20) (fun a26 g29 b h => ?_)
      obtain ⟨z24, m27⟩ := b
      refine rf_v2 ?_
      obtain ⟨rfl, r25⟩ := (show RZ a26 z24 from h.1)
      have hR28 : RC w y g29 n m27 := h.2
      refine rf_eq rfl (e_n 0) (inZ.r r25) (show inR 0 by decide) ?_ ?_
      · exact fk_Y_press_47 hy rfl h13 hR28
      · refine v_c (y_gt hR28 hy) ?_
        refine rf_bind (f_Y_pressed hy hR28) (fun g34 m32 hR33 => ?_)
        exact fk_Y_press_47 hy rfl h13 hR33
noncomputable def N_Y_focused (m : YS) : Option (Int) :=
  if (m 150 0) = (-1) then
    some 0
  else
    ix (m 150 0) 120 <|
    if (m 45 (m 150 0)) = 0 then
      some 0
    else
      ix (m 150 0) 120 <|
      if (m 55 (m 150 0)) = (m 151 0) then
        some 1
      else
        some 0
theorem f_Y_focused {w y : Prop} {g : g_S} {n : NS} {m : YS} (hy : y) (hR : RC w y g n m) : Rf (fun a b => RZ a b) (M_Y_focused 1838 g) (N_Y_focused m) := by
  unfold M_Y_focused N_Y_focused
  refine y_I hR hy yk150 yt150 (fun h1 => ?_)
  refine rf_eq rfl (e_m 1) h1 (show inR (-1) by decide) ?_ ?_
  · exact rf_ok (by exact ⟨(e_n 0), (.inl rfl)⟩)
  · refine y_Q hR hy ya45.1 (by decide) ?_
    refine y_I hR hy yk150 yt150 (fun h5 => ?_)
    refine y_aZ hR hy ya45 yl45 rfl h5 (fun h6 h7 => ?_)
    refine rf_eq rfl (e_n 0) (inZ.r h7) (show inR 0 by decide) ?_ ?_
    · exact rf_ok (by exact ⟨(e_n 0), (.inl rfl)⟩)
    · refine y_Q hR hy ya55.1 (by decide) ?_
      refine y_I hR hy yk150 yt150 (fun h11 => ?_)
      refine y_aI hR hy ya55 yl55 rfl h11 (fun h12 h13 => ?_)
      refine y_I hR hy yk151 yt151 (fun h14 => ?_)
      refine rf_eq rfl rfl h13 h14 ?_ ?_
      · exact rf_ok (by exact ⟨(e_n 1), (.inr rfl)⟩)
      · exact rf_ok (by exact ⟨(e_n 0), (.inl rfl)⟩)
noncomputable def N_Y_typed (v1 : Int) (m : YS) : Option (YS) :=
  if v1 = 8 then
    ix (m 150 0) 120 <|
    ck ((m 65 (m 150 0)) - 1) <|
    ix (m 150 0) 120 <|
    st (yw m 65 (m 150 0) (max 0 ((m 65 (m 150 0)) - 1))) fun m10 =>
    some m10
  else
    if v1 = 10 then
      (N_Y_formOf (m 150 0) m).bind fun z16 =>
      if z16 = (-1) then
        some m
      else
        (N_Y_sendForm z16 m).bind fun m22 =>
        some m22
    else
      ix (m 150 0) 120 <|
      if (m 65 (m 150 0)) < 24 then
        ck (24 * (m 150 0)) <|
        ix (m 150 0) 120 <|
        ck ((24 * (m 150 0)) + (m 65 (m 150 0))) <|
        ix ((24 * (m 150 0)) + (m 65 (m 150 0))) 2880 <|
        st (yw m 64 ((24 * (m 150 0)) + (m 65 (m 150 0))) (Int.bmod v1 256)) fun m37 =>
        ix (m 150 0) 120 <|
        ck ((m37 65 (m 150 0)) + 1) <|
        ix (m 150 0) 120 <|
        st (yw m37 65 (m 150 0) ((m37 65 (m 150 0)) + 1)) fun m45 =>
        some m45
      else
        some m
theorem f_Y_typed {w y : Prop} {g : g_S} {n : NS} {m : YS} (hy : y) {xv1 : Int32} {v1 : Int} (ev1 : xv1 = Int32.ofInt v1) (rv1 : inR v1) (hR : RC w y g n m) : Rf (fun a b => RC w y a n b) (M_Y_typed 1838 xv1 g) (N_Y_typed v1 m) := by
  subst ev1
  unfold M_Y_typed N_Y_typed
  refine y_I hR hy yk150 yt150 (fun h1 => ?_)
  refine rf_eq rfl (e_n 8) rv1 (show inR 8 by decide) ?_ ?_
  · refine y_Q hR hy ya65.1 (by decide) ?_
    refine y_Q hR hy ya65.1 (by decide) ?_
    refine y_aI hR hy ya65 yl65 rfl h1 (fun h5 h6 => ?_)
    refine rf_ck (fun h7 => ?_)
    refine y_sI hR hy ya65 yl65 rfl h1 (e_mx (e_n 0) (e_sub rfl (e_n 1)) (show inR 0 by decide) h7) (max_r (show inR 0 by decide) h7) (fun g12 m10 hR11 => ?_)
    exact rf_ok (by exact hR11)
  · refine rf_eq rfl (e_n 10) rv1 (show inR 10 by decide) ?_ ?_
    · refine v_c (y_gt hR hy) ?_
      refine rf_bind (f_Y_formOf hy rfl h1 hR) (fun a18 z16 h => ?_)
      obtain ⟨rfl, r17⟩ := h
      refine rf_eq rfl (e_m 1) r17 (show inR (-1) by decide) ?_ ?_
      · exact rf_ok (by exact hR)
      · refine v_c (y_gt hR hy) ?_
        refine rf_bind (f_Y_sendForm hy rfl r17 hR) (fun g24 m22 hR23 => ?_)
        exact rf_ok (by exact hR23)
    · refine y_Q hR hy ya65.1 (by decide) ?_
      refine y_aI hR hy ya65 yl65 rfl h1 (fun h27 h28 => ?_)
      refine rf_lt rfl (e_n 24) h28 (show inR 24 by decide) ?_ ?_
      · refine y_Q hR hy ya64.1 (by decide) ?_
        refine rf_ck (fun h31 => ?_)
        refine y_Q hR hy ya65.1 (by decide) ?_
        refine y_aI hR hy ya65 yl65 rfl h1 (fun h33 h34 => ?_)
        refine rf_ck (fun h35 => ?_)
        refine y_sB hR hy ya64 yl64 (e_add (e_mul (e_n 24) rfl) rfl) h35 (e_b rfl) b_b (fun g39 m37 hR38 => ?_)
        refine y_Q hR38 hy ya65.1 (by decide) ?_
        refine y_aI hR38 hy ya65 yl65 rfl h1 (fun h41 h42 => ?_)
        refine rf_ck (fun h43 => ?_)
        refine y_sI hR38 hy ya65 yl65 rfl h1 (e_add rfl (e_n 1)) h43 (fun g47 m45 hR46 => ?_)
        exact rf_ok (by exact hR46)
      · exact rf_ok (by exact hR)
noncomputable def nk_Y_key_69 (v2 : Int) (m : YS) : Option (Int × YS) :=
  (N_Y_settle m).bind fun m2 =>
  (N_Y_changed m2).bind fun m6 =>
  some (v2, m6)
theorem fk_Y_key_69 {w y : Prop} {g : g_S} {n : NS} {m : YS} (hy : y) {xv2 : Int32} {v2 : Int} (ev2 : xv2 = Int32.ofInt v2) (rv2 : inR v2) (hR : RC w y g n m) : Rf (fun a b => RI a.1 b.1 ∧ RC w y a.2 n b.2) (k_Y_key_69 1838 xv2 g) (nk_Y_key_69 v2 m) := by
  subst ev2
  unfold k_Y_key_69 nk_Y_key_69
  refine v_c (y_gt hR hy) ?_
  refine rf_bind (f_Y_settle hy hR) (fun g4 m2 hR3 => ?_)
  refine v_c (y_gt hR3 hy) ?_
  refine rf_bind (f_Y_changed hy hR3) (fun g8 m6 hR7 => ?_)
  exact rf_ok (by exact ⟨⟨rfl, rv2⟩, hR7⟩)
noncomputable def nk_Y_key_33 (v1 : Int) (m : YS) : Option (Int × YS) :=
  (N_Y_begin m).bind fun m3 =>
  (N_Y_wayUp (m 150 0) m3).bind fun m7 =>
  (N_Y_goesUp 26389967 m7).bind <| u2 fun z12 m15 =>
  if z12 = 0 then
    nk_Y_key_69 (m 150 0) m15
  else
    (N_Y_focused m15).bind fun z20 =>
    if z20 = 0 then
      nk_Y_key_69 (m 150 0) m15
    else
      (N_Y_typed v1 m15).bind fun m25 =>
      nk_Y_key_69 (m 150 0) m25
theorem fk_Y_key_33 {w y : Prop} {g : g_S} {n : NS} {m : YS} (hy : y) {xv1 : Int32} {v1 : Int} (ev1 : xv1 = Int32.ofInt v1) (rv1 : inR v1) (hR : RC w y g n m) : Rf (fun a b => RI a.1 b.1 ∧ RC w y a.2 n b.2) (k_Y_key_33 1838 xv1 g) (nk_Y_key_33 v1 m) := by
  subst ev1
  unfold k_Y_key_33 nk_Y_key_33
  refine y_I hR hy yk150 yt150 (fun h1 => ?_)
  refine v_c (y_gt hR hy) ?_
  refine rf_bind (f_Y_begin hy hR) (fun g5 m3 hR4 => ?_)
  refine v_c (y_gt hR4 hy) ?_
  refine rf_bind (f_Y_wayUp hy rfl h1 hR4) (fun g9 m7 hR8 => ?_)
  refine v_c2 (y_gt hR8 hy) ?_
  refine rf_c2 (f_Y_goesUp hy (f_n 26389967) (show inL 26389967 by decide) hR8) (fun a14 g17 b h => ?_)
  obtain ⟨z12, m15⟩ := b
  refine rf_v2 ?_
  obtain ⟨rfl, r13⟩ := (show RZ a14 z12 from h.1)
  have hR16 : RC w y g17 n m15 := h.2
  refine rf_eq rfl (e_n 0) (inZ.r r13) (show inR 0 by decide) ?_ ?_
  · exact fk_Y_key_69 hy rfl h1 hR16
  · refine v_c (y_gt hR16 hy) ?_
    refine rf_bind (f_Y_focused hy hR16) (fun a22 z20 h => ?_)
    obtain ⟨rfl, r21⟩ := h
    refine rf_eq rfl (e_n 0) (inZ.r r21) (show inR 0 by decide) ?_ ?_
    · exact fk_Y_key_69 hy rfl h1 hR16
    · refine v_c (y_gt hR16 hy) ?_
      refine rf_bind (f_Y_typed hy rfl rv1 hR16) (fun g27 m25 hR26 => ?_)
      exact fk_Y_key_69 hy rfl h1 hR26
noncomputable def N_Y_key (v1 : Int) (m : YS) : Option (Int × YS) :=
  (N_Y_focused m).bind fun z2 =>
  if z2 = 0 then
    some ((-1), m)
  else
    if v1 = 8 then
      nk_Y_key_33 v1 m
    else
      if v1 = 10 then
        nk_Y_key_33 v1 m
      else
        if v1 < 32 then
          some ((-1), m)
        else
          if 126 < v1 then
            some ((-1), m)
          else
            nk_Y_key_33 v1 m
theorem f_Y_key {w y : Prop} {g : g_S} {n : NS} {m : YS} (hy : y) {xv1 : Int32} {v1 : Int} (ev1 : xv1 = Int32.ofInt v1) (rv1 : inR v1) (hR : RC w y g n m) : Rf (fun a b => RI a.1 b.1 ∧ RC w y a.2 n b.2) (M_Y_key 1838 xv1 g) (N_Y_key v1 m) := by
  subst ev1
  unfold M_Y_key N_Y_key
  refine v_c (y_gt hR hy) ?_
  refine rf_bind (f_Y_focused hy hR) (fun a4 z2 h => ?_)
  obtain ⟨rfl, r3⟩ := h
  refine rf_eq rfl (e_n 0) (inZ.r r3) (show inR 0 by decide) ?_ ?_
  · exact rf_ok (by exact ⟨⟨(e_m 1), (show inR (-1) by decide)⟩, hR⟩)
  · refine rf_eq rfl (e_n 8) rv1 (show inR 8 by decide) ?_ ?_
    · exact fk_Y_key_33 hy rfl rv1 hR
    · refine rf_eq rfl (e_n 10) rv1 (show inR 10 by decide) ?_ ?_
      · exact fk_Y_key_33 hy rfl rv1 hR
      · refine rf_lt rfl (e_n 32) rv1 (show inR 32 by decide) ?_ ?_
        · exact rf_ok (by exact ⟨⟨(e_m 1), (show inR (-1) by decide)⟩, hR⟩)
        · refine rf_lt (e_n 126) rfl (show inR 126 by decide) rv1 ?_ ?_
          · exact rf_ok (by exact ⟨⟨(e_m 1), (show inR (-1) by decide)⟩, hR⟩)
          · exact fk_Y_key_33 hy rfl rv1 hR
noncomputable def nb_Y_script_28 (v2 : Int) (m : YS) : Option ((Int × YS) ⊕ (YS)) :=
  if v2 < (m 3 0) then
    ix v2 2000 <|
    ix v2 2000 <|
    st (yw m 159 v2 (m 2 v2)) fun m8 =>
    ck (v2 + 1) <|
    some (.inl (v2 + 1, m8))
  else
    some (.inr m)
theorem fb_Y_script_28 {w y : Prop} {g : g_S} {n : NS} {m : YS} (hy : y) {xv2 : Int32} {v2 : Int} (ev2 : xv2 = Int32.ofInt v2) (rv2 : inR v2) (hR : RC w y g n m) : Rf (RS (fun a b => RI a.1 b.1 ∧ RC w y a.2 n b.2) (fun a b => RC w y a n b)) (b_Y_script_28 1838 xv2 g) (nb_Y_script_28 v2 m) := by
  subst ev2
  unfold b_Y_script_28 nb_Y_script_28
  refine y_I hR hy yk3 yt3 (fun h1 => ?_)
  refine rf_lt rfl rfl rv2 h1 ?_ ?_
  · refine y_Q hR hy ya159.1 (by decide) ?_
    refine y_Q hR hy ya2.1 (by decide) ?_
    refine y_aB hR hy ya2 yl2 rfl rv2 (fun h5 h6 => ?_)
    refine y_sB hR hy ya159 yl159 rfl rv2 rfl h6 (fun g10 m8 hR9 => ?_)
    refine rf_ck (fun h11 => ?_)
    exact rf_ok (by exact ⟨⟨(e_add rfl (e_n 1)), h11⟩, hR9⟩)
  · exact rf_ok (by exact hR)
noncomputable def NL_Y_script_28 (v2 : Int) (m : YS) : Option (YS) :=
  it (fun s : Int × YS => nb_Y_script_28 s.1 s.2) (v2, m)
theorem fL_Y_script_28 {w y : Prop} {g : g_S} {n : NS} {m : YS} (hy : y) {xv2 : Int32} {v2 : Int} (ev2 : xv2 = Int32.ofInt v2) (rv2 : inR v2) (hR : RC w y g n m) : Rf (fun a b => RC w y a n b) (L_Y_script_28 1838 xv2 g) (NL_Y_script_28 v2 m) := by
  subst ev2
  unfold L_Y_script_28 NL_Y_script_28
  refine rf_it (I := (fun a b => RI a.1 b.1 ∧ RC w y a.2 n b.2)) (fun s t h => ?_) ⟨⟨rfl, rv2⟩, hR⟩
  exact fb_Y_script_28 hy h.1.1 h.1.2 h.2
theorem NL_Y_script_28_eq (v2 : Int) (m : YS) : NL_Y_script_28 v2 m = itc (nb_Y_script_28 v2 m) (fun s => NL_Y_script_28 s.1 s.2) := it_eq2 (fun s : Int × YS => nb_Y_script_28 s.1 s.2) (v2, m)
noncomputable def N_Y_script (m : YS) : Option (Int × YS) :=
  (N_Y_take m).bind <| u2 fun z2 m5 =>
  if z2 < 0 then
    (N_Y_begin m5).bind fun m10 =>
    st (yw m10 160 0 (m10 3 0)) fun m15 =>
    (NL_Y_script_28 0 m15).bind <| fun m18 =>
    st (yw m18 161 0 0) fun m22 =>
    ix 0 120 <|
    st (yw m22 162 0 (m22 55 0)) fun m29 =>
    (N_Y_runScript m29).bind fun m34 =>
    (N_Y_settle m34).bind fun m38 =>
    (N_Y_changed m38).bind fun m42 =>
    ck ((m42 155 0) - (m29 155 0)) <|
    some ((m42 155 0) - (m29 155 0), m42)
  else
    (N_Y_wrong z2 m5).bind fun z49 =>
    some (z49, m5)
theorem f_Y_script {w y : Prop} {g : g_S} {n : NS} {m : YS} (hy : y) (hR : RC w y g n m) : Rf (fun a b => RI a.1 b.1 ∧ RC w y a.2 n b.2) (M_Y_script 1838 g) (N_Y_script m) := by
  unfold M_Y_script N_Y_script
  refine v_c2 (y_gt hR hy) ?_
  refine rf_c2 (f_Y_take hy hR) (fun a4 g7 b h => ?_)
  obtain ⟨z2, m5⟩ := b
  refine rf_v2 ?_
  obtain ⟨rfl, r3⟩ := (show RI a4 z2 from h.1)
  have hR6 : RC w y g7 n m5 := h.2
  refine rf_lt rfl (e_n 0) r3 (show inR 0 by decide) ?_ ?_
  · refine v_c (y_gt hR6 hy) ?_
    refine rf_bind (f_Y_begin hy hR6) (fun g12 m10 hR11 => ?_)
    refine y_I hR11 hy yk3 yt3 (fun h13 => ?_)
    refine y_pI hR11 hy yk160 ⟨yt160, yz160⟩ rfl h13 (fun g17 m15 hR16 => ?_)
    refine rf_bind (fL_Y_script_28 hy (e_n 0) (show inR 0 by decide) hR16) (fun a19 m18 h => ?_)
    have hR20 : RC w y a19 n m18 := h
    refine y_pI hR20 hy yk161 ⟨yt161, yz161⟩ (e_n 0) (show inR 0 by decide) (fun g24 m22 hR23 => ?_)
    refine y_Q hR23 hy ya55.1 (by decide) ?_
    refine y_aI hR23 hy ya55 yl55 (e_n 0) (show inR 0 by decide) (fun h26 h27 => ?_)
    refine y_pI hR23 hy yk162 ⟨yt162, yz162⟩ rfl h27 (fun g31 m29 hR30 => ?_)
    refine y_I hR30 hy yk155 yt155 (fun h32 => ?_)
    refine v_c (y_gt hR30 hy) ?_
    refine rf_bind (f_Y_runScript hy hR30) (fun g36 m34 hR35 => ?_)
    refine v_c (y_gt hR35 hy) ?_
    refine rf_bind (f_Y_settle hy hR35) (fun g40 m38 hR39 => ?_)
    refine v_c (y_gt hR39 hy) ?_
    refine rf_bind (f_Y_changed hy hR39) (fun g44 m42 hR43 => ?_)
    refine y_I hR43 hy yk155 yt155 (fun h45 => ?_)
    refine rf_ck (fun h46 => ?_)
    exact rf_ok (by exact ⟨⟨(e_sub rfl rfl), h46⟩, hR43⟩)
  · refine rf_bind (f_Y_wrong hy rfl r3 hR6) (fun a51 z49 h => ?_)
    obtain ⟨rfl, r50⟩ := h
    exact rf_ok (by exact ⟨⟨rfl, r50⟩, hR6⟩)
noncomputable def N_Y_value (v1 : Int) (m : YS) : Option (Int × YS) :=
  (N_Y_there v1 m).bind fun z2 =>
  if z2 = 0 then
    some ((-1), m)
  else
    ix v1 120 <|
    if (m 46 v1) = 13 then
      st (yw m 5 0 0) fun m12 =>
      ck (24 * v1) <|
      ix v1 120 <|
      (N_Y_sayAll 64 (24 * v1) (m12 65 v1) m12).bind fun m21 =>
      some ((m21 5 0), m21)
    else
      some ((-1), m)
theorem f_Y_value {w y : Prop} {g : g_S} {n : NS} {m : YS} (hy : y) {xv1 : Int32} {v1 : Int} (ev1 : xv1 = Int32.ofInt v1) (rv1 : inR v1) (hR : RC w y g n m) : Rf (fun a b => RI a.1 b.1 ∧ RC w y a.2 n b.2) (M_Y_value 1838 xv1 g) (N_Y_value v1 m) := by
  subst ev1
  unfold M_Y_value N_Y_value
  refine v_c (y_gt hR hy) ?_
  refine rf_bind (f_Y_there hy rfl rv1 hR) (fun a4 z2 h => ?_)
  obtain ⟨rfl, r3⟩ := h
  refine rf_eq rfl (e_n 0) (inZ.r r3) (show inR 0 by decide) ?_ ?_
  · exact rf_ok (by exact ⟨⟨(e_m 1), (show inR (-1) by decide)⟩, hR⟩)
  · refine y_Q hR hy ya46.1 (by decide) ?_
    refine y_aI hR hy ya46 yl46 rfl rv1 (fun h8 h9 => ?_)
    refine rf_eq rfl (e_n 13) h9 (show inR 13 by decide) ?_ ?_
    · refine y_pI hR hy yk5 ⟨yt5, yz5⟩ (e_n 0) (show inR 0 by decide) (fun g14 m12 hR13 => ?_)
      refine y_Q hR13 hy ya64.1 (by decide) ?_
      refine rf_ck (fun h16 => ?_)
      refine y_Q hR13 hy ya65.1 (by decide) ?_
      refine y_aI hR13 hy ya65 yl65 rfl rv1 (fun h18 h19 => ?_)
      refine v_c (y_gt hR13 hy) ?_
      refine rf_bind (f_Y_sayAll hy rfl ya64 (e_mul (e_n 24) rfl) h16 rfl h19 hR13) (fun g23 m21 hR22 => ?_)
      refine y_I hR22 hy yk5 yt5 (fun h24 => ?_)
      exact rf_ok (by exact ⟨⟨rfl, h24⟩, hR22⟩)
    · exact rf_ok (by exact ⟨⟨(e_m 1), (show inR (-1) by decide)⟩, hR⟩)
noncomputable def N_Y_checked (v1 : Int) (m : YS) : Option (Int) :=
  (N_Y_there v1 m).bind fun z2 =>
  if z2 = 0 then
    some (-1)
  else
    ix v1 120 <|
    if (m 46 v1) = 13 then
      ix v1 120 <|
      if (m 66 v1) = 0 then
        some 0
      else
        some 1
    else
      some (-1)
theorem f_Y_checked {w y : Prop} {g : g_S} {n : NS} {m : YS} (hy : y) {xv1 : Int32} {v1 : Int} (ev1 : xv1 = Int32.ofInt v1) (rv1 : inR v1) (hR : RC w y g n m) : Rf (fun a b => RI a b) (M_Y_checked 1838 xv1 g) (N_Y_checked v1 m) := by
  subst ev1
  unfold M_Y_checked N_Y_checked
  refine v_c (y_gt hR hy) ?_
  refine rf_bind (f_Y_there hy rfl rv1 hR) (fun a4 z2 h => ?_)
  obtain ⟨rfl, r3⟩ := h
  refine rf_eq rfl (e_n 0) (inZ.r r3) (show inR 0 by decide) ?_ ?_
  · exact rf_ok (by exact ⟨(e_m 1), (show inR (-1) by decide)⟩)
  · refine y_Q hR hy ya46.1 (by decide) ?_
    refine y_aI hR hy ya46 yl46 rfl rv1 (fun h8 h9 => ?_)
    refine rf_eq rfl (e_n 13) h9 (show inR 13 by decide) ?_ ?_
    · refine y_Q hR hy ya66.1 (by decide) ?_
      refine y_aZ hR hy ya66 yl66 rfl rv1 (fun h12 h13 => ?_)
      refine rf_eq rfl (e_n 0) (inZ.r h13) (show inR 0 by decide) ?_ ?_
      · exact rf_ok (by exact ⟨(e_n 0), (show inR 0 by decide)⟩)
      · exact rf_ok (by exact ⟨(e_n 1), (show inR 1 by decide)⟩)
    · exact rf_ok (by exact ⟨(e_m 1), (show inR (-1) by decide)⟩)
noncomputable def N_Y_count (v1 : Int) (m : YS) : Option (Int × YS) :=
  if v1 = 0 then
    some ((m 68 0), m)
  else if v1 = 1 then
    some ((m 70 0), m)
  else if v1 = 2 then
    some ((m 16 0), m)
  else if v1 = 3 then
    some ((m 30 0), m)
  else if v1 = 4 then
    some ((m 26 0), m)
  else if v1 = 5 then
    some ((m 35 0), m)
  else if v1 = 6 then
    some ((m 25 0), m)
  else if v1 = 7 then
    some ((m 148 0), m)
  else if v1 = 8 then
    some ((m 149 0), m)
  else if v1 = 9 then
    some ((m 166 0), m)
  else if v1 = 10 then
    some ((m 157 0), m)
  else if v1 = 11 then
    some ((m 156 0), m)
  else if v1 = 12 then
    some ((m 155 0), m)
  else if v1 = 13 then
    (N_Y_focused m).bind fun z29 =>
    if z29 = 0 then
      some ((-1), m)
    else
      some ((m 150 0), m)
  else if v1 = 14 then
    (N_Y_pictureHigh m).bind <| u2 fun z37 m40 =>
    some (z37, m40)
  else if v1 = 15 then
    some ((m 174 0), m)
  else if v1 = 16 then
    (N_Y_lay m).bind fun m47 =>
    some ((m47 89 0), m47)
  else
    some ((-1), m)
theorem f_Y_count {w y : Prop} {g : g_S} {n : NS} {m : YS} (hy : y) {xv1 : Int32} {v1 : Int} (ev1 : xv1 = Int32.ofInt v1) (rv1 : inR v1) (hR : RC w y g n m) : Rf (fun a b => RI a.1 b.1 ∧ RC w y a.2 n b.2) (M_Y_count 1838 xv1 g) (N_Y_count v1 m) := by
  subst ev1
  unfold M_Y_count N_Y_count
  refine rf_eq rfl (e_n 0) rv1 (show inR 0 by decide) ?_ ?_
  · refine y_I hR hy yk68 yt68 (fun h2 => ?_)
    exact rf_ok (by exact ⟨⟨rfl, h2⟩, hR⟩)
  refine rf_eq rfl (e_n 1) rv1 (show inR 1 by decide) ?_ ?_
  · refine y_I hR hy yk70 yt70 (fun h4 => ?_)
    exact rf_ok (by exact ⟨⟨rfl, h4⟩, hR⟩)
  refine rf_eq rfl (e_n 2) rv1 (show inR 2 by decide) ?_ ?_
  · refine y_I hR hy yk16 yt16 (fun h6 => ?_)
    exact rf_ok (by exact ⟨⟨rfl, h6⟩, hR⟩)
  refine rf_eq rfl (e_n 3) rv1 (show inR 3 by decide) ?_ ?_
  · refine y_I hR hy yk30 yt30 (fun h8 => ?_)
    exact rf_ok (by exact ⟨⟨rfl, h8⟩, hR⟩)
  refine rf_eq rfl (e_n 4) rv1 (show inR 4 by decide) ?_ ?_
  · refine y_I hR hy yk26 yt26 (fun h10 => ?_)
    exact rf_ok (by exact ⟨⟨rfl, h10⟩, hR⟩)
  refine rf_eq rfl (e_n 5) rv1 (show inR 5 by decide) ?_ ?_
  · refine y_I hR hy yk35 yt35 (fun h12 => ?_)
    exact rf_ok (by exact ⟨⟨rfl, h12⟩, hR⟩)
  refine rf_eq rfl (e_n 6) rv1 (show inR 6 by decide) ?_ ?_
  · refine y_I hR hy yk25 yt25 (fun h14 => ?_)
    exact rf_ok (by exact ⟨⟨rfl, h14⟩, hR⟩)
  refine rf_eq rfl (e_n 7) rv1 (show inR 7 by decide) ?_ ?_
  · refine y_I hR hy yk148 yt148 (fun h16 => ?_)
    exact rf_ok (by exact ⟨⟨rfl, h16⟩, hR⟩)
  refine rf_eq rfl (e_n 8) rv1 (show inR 8 by decide) ?_ ?_
  · refine y_I hR hy yk149 yt149 (fun h18 => ?_)
    exact rf_ok (by exact ⟨⟨rfl, h18⟩, hR⟩)
  refine rf_eq rfl (e_n 9) rv1 (show inR 9 by decide) ?_ ?_
  · refine y_I hR hy yk166 yt166 (fun h20 => ?_)
    exact rf_ok (by exact ⟨⟨rfl, h20⟩, hR⟩)
  refine rf_eq rfl (e_n 10) rv1 (show inR 10 by decide) ?_ ?_
  · refine y_I hR hy yk157 yt157 (fun h22 => ?_)
    exact rf_ok (by exact ⟨⟨rfl, h22⟩, hR⟩)
  refine rf_eq rfl (e_n 11) rv1 (show inR 11 by decide) ?_ ?_
  · refine y_I hR hy yk156 yt156 (fun h24 => ?_)
    exact rf_ok (by exact ⟨⟨rfl, h24⟩, hR⟩)
  refine rf_eq rfl (e_n 12) rv1 (show inR 12 by decide) ?_ ?_
  · refine y_I hR hy yk155 yt155 (fun h26 => ?_)
    exact rf_ok (by exact ⟨⟨rfl, h26⟩, hR⟩)
  refine rf_eq rfl (e_n 13) rv1 (show inR 13 by decide) ?_ ?_
  · refine v_c (y_gt hR hy) ?_
    refine rf_bind (f_Y_focused hy hR) (fun a31 z29 h => ?_)
    obtain ⟨rfl, r30⟩ := h
    refine rf_eq rfl (e_n 0) (inZ.r r30) (show inR 0 by decide) ?_ ?_
    · exact rf_ok (by exact ⟨⟨(e_m 1), (show inR (-1) by decide)⟩, hR⟩)
    · refine y_I hR hy yk150 yt150 (fun h34 => ?_)
      exact rf_ok (by exact ⟨⟨rfl, h34⟩, hR⟩)
  refine rf_eq rfl (e_n 14) rv1 (show inR 14 by decide) ?_ ?_
  · refine v_c2 (y_gt hR hy) ?_
    refine rf_c2 (f_Y_pictureHigh hy hR) (fun a39 g42 b h => ?_)
    obtain ⟨z37, m40⟩ := b
    refine rf_v2 ?_
    obtain ⟨rfl, r38⟩ := (show RI a39 z37 from h.1)
    have hR41 : RC w y g42 n m40 := h.2
    exact rf_ok (by exact ⟨⟨rfl, r38⟩, hR41⟩)
  refine rf_eq rfl (e_n 15) rv1 (show inR 15 by decide) ?_ ?_
  · refine y_I hR hy yk174 yt174 (fun h44 => ?_)
    exact rf_ok (by exact ⟨⟨rfl, h44⟩, hR⟩)
  refine rf_eq rfl (e_n 16) rv1 (show inR 16 by decide) ?_ ?_
  · refine v_c (y_gt hR hy) ?_
    refine rf_bind (f_Y_lay hy hR) (fun g49 m47 hR48 => ?_)
    refine y_I hR48 hy yk89 yt89 (fun h50 => ?_)
    exact rf_ok (by exact ⟨⟨rfl, h50⟩, hR48⟩)
  exact rf_ok (by exact ⟨⟨(e_m 1), (show inR (-1) by decide)⟩, hR⟩)
