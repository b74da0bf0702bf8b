/-! methods on numbers, group 10 -/
noncomputable def nk_Y_cascade_99 (v1 : Int) (v2 : Int) (v3 : Int) (v4 : Int) (v5 : Int) (w0 : Int) (m : YS) : Option ((Int × Int) ⊕ (Int)) :=
  if w0 < v5 then
    ck (v4 + 1) <|
    some (.inl (v4, v4 + 1))
  else
    if v5 = w0 then
      ix v4 41 <|
      ix v3 41 <|
      if (m 97 v4) < (m 97 v3) then
        ck (v4 + 1) <|
        some (.inl (v3, v4 + 1))
      else
        ck (v4 + 1) <|
        some (.inl (v4, v4 + 1))
    else
      ck (v4 + 1) <|
      some (.inl (v3, v4 + 1))
theorem fk_Y_cascade_99 {w y : Prop} {g : g_S} {n : NS} {m : YS} (hy : y) {xv1 : Int32} {v1 : Int} (ev1 : xv1 = Int32.ofInt v1) (rv1 : inR v1) {xv2 : Int32} {v2 : Int} (ev2 : xv2 = Int32.ofInt v2) (rv2 : inR v2) {xv3 : Int32} {v3 : Int} (ev3 : xv3 = Int32.ofInt v3) (rv3 : inR v3) {xv4 : Int32} {v4 : Int} (ev4 : xv4 = Int32.ofInt v4) (rv4 : inR v4) {xv5 : Int32} {v5 : Int} (ev5 : xv5 = Int32.ofInt v5) (rv5 : inR v5) {xw0 : Int32} {w0 : Int} (ew0 : xw0 = Int32.ofInt w0) (rw0 : inR w0) (hR : RC w y g n m) : Rf (RS (fun a b => RI a.1 b.1 ∧ RI a.2 b.2) (fun a b => RI a b)) (k_Y_cascade_99 1838 xv1 xv2 xv3 xv4 xv5 xw0 g) (nk_Y_cascade_99 v1 v2 v3 v4 v5 w0 m) := by
  subst ev1
  subst ev2
  subst ev3
  subst ev4
  subst ev5
  subst ew0
  unfold k_Y_cascade_99 nk_Y_cascade_99
  refine rf_lt rfl rfl rw0 rv5 ?_ ?_
  · refine rf_ck (fun h2 => ?_)
    exact rf_ok (by exact ⟨⟨rfl, rv4⟩, ⟨(e_add rfl (e_n 1)), h2⟩⟩)
  · refine rf_eq rfl rfl rv5 rw0 ?_ ?_
    · refine y_Q hR hy ya97.1 (by decide) ?_
      refine y_aI hR hy ya97 yl97 rfl rv4 (fun h5 h6 => ?_)
      refine y_Q hR hy ya97.1 (by decide) ?_
      refine y_aI hR hy ya97 yl97 rfl rv3 (fun h8 h9 => ?_)
      refine rf_lt rfl rfl h6 h9 ?_ ?_
      · refine rf_ck (fun h11 => ?_)
        exact rf_ok (by exact ⟨⟨rfl, rv3⟩, ⟨(e_add rfl (e_n 1)), h11⟩⟩)
      · refine rf_ck (fun h12 => ?_)
        exact rf_ok (by exact ⟨⟨rfl, rv4⟩, ⟨(e_add rfl (e_n 1)), h12⟩⟩)
    · refine rf_ck (fun h13 => ?_)
      exact rf_ok (by exact ⟨⟨rfl, rv3⟩, ⟨(e_add rfl (e_n 1)), h13⟩⟩)
noncomputable def nb_Y_cascade_38 (v1 : Int) (v2 : Int) (v3 : Int) (v4 : Int) (m : YS) : Option ((Int × Int) ⊕ (Int)) :=
  if v4 < (m 89 0) then
    ck (11 * v4) <|
    ck ((11 * v4) + v2) <|
    ix ((11 * v4) + v2) 451 <|
    if (m 99 ((11 * v4) + v2)) = 0 then
      ck (v4 + 1) <|
      some (.inl (v3, v4 + 1))
    else
      (N_Y_matches v1 v4 m).bind fun z11 =>
      if z11 = 0 then
        ck (v4 + 1) <|
        some (.inl (v3, v4 + 1))
      else
        if v3 = (-1) then
          nk_Y_cascade_99 v1 v2 v3 v4 (m 99 ((11 * v4) + v2)) 0 m
        else
          ck (11 * v3) <|
          ck ((11 * v3) + v2) <|
          ix ((11 * v3) + v2) 451 <|
          nk_Y_cascade_99 v1 v2 v3 v4 (m 99 ((11 * v4) + v2)) (m 99 ((11 * v3) + v2)) m
  else
    some (.inr v3)
theorem fb_Y_cascade_38 {w y : Prop} {g : g_S} {n : NS} {m : YS} (hy : y) {xv1 : Int32} {v1 : Int} (ev1 : xv1 = Int32.ofInt v1) (rv1 : inR v1) {xv2 : Int32} {v2 : Int} (ev2 : xv2 = Int32.ofInt v2) (rv2 : inR v2) {xv3 : Int32} {v3 : Int} (ev3 : xv3 = Int32.ofInt v3) (rv3 : inR v3) {xv4 : Int32} {v4 : Int} (ev4 : xv4 = Int32.ofInt v4) (rv4 : inR v4) (hR : RC w y g n m) : Rf (RS (fun a b => RI a.1 b.1 ∧ RI a.2 b.2) (fun a b => RI a b)) (b_Y_cascade_38 1838 xv1 xv2 xv3 xv4 g) (nb_Y_cascade_38 v1 v2 v3 v4 m) := by
  subst ev1
  subst ev2
  subst ev3
  subst ev4
  unfold b_Y_cascade_38 nb_Y_cascade_38
  refine y_I hR hy yk89 yt89 (fun h1 => ?_)
  refine rf_lt rfl rfl rv4 h1 ?_ ?_
  · refine y_Q hR hy ya99.1 (by decide) ?_
    refine rf_ck (fun h4 => ?_)
    refine rf_ck (fun h5 => ?_)
    refine y_aI hR hy ya99 yl99 (e_add (e_mul (e_n 11) rfl) rfl) h5 (fun h6 h7 => ?_)
    refine rf_eq rfl (e_n 0) h7 (show inR 0 by decide) ?_ ?_
    · refine rf_ck (fun h9 => ?_)
      exact rf_ok (by exact ⟨⟨rfl, rv3⟩, ⟨(e_add rfl (e_n 1)), h9⟩⟩)
    · refine v_c (y_gt hR hy) ?_
      refine rf_bind (f_Y_matches hy rfl rv1 rfl rv4 hR) (fun a13 z11 h => ?_)
      obtain ⟨rfl, r12⟩ := h
      refine rf_eq rfl (e_n 0) (inZ.r r12) (show inR 0 by decide) ?_ ?_
      · refine rf_ck (fun h15 => ?_)
        exact rf_ok (by exact ⟨⟨rfl, rv3⟩, ⟨(e_add rfl (e_n 1)), h15⟩⟩)
      · refine rf_eq rfl (e_m 1) rv3 (show inR (-1) by decide) ?_ ?_
        · exact fk_Y_cascade_99 hy rfl rv1 rfl rv2 rfl rv3 rfl rv4 rfl h7 (e_n 0) (show inR 0 by decide) hR
        · refine y_Q hR hy ya99.1 (by decide) ?_
          refine rf_ck (fun h18 => ?_)
          refine rf_ck (fun h19 => ?_)
          refine y_aI hR hy ya99 yl99 (e_add (e_mul (e_n 11) rfl) rfl) h19 (fun h20 h21 => ?_)
          exact fk_Y_cascade_99 hy rfl rv1 rfl rv2 rfl rv3 rfl rv4 rfl h7 rfl h21 hR
  · exact rf_ok (by exact ⟨rfl, rv3⟩)
noncomputable def NL_Y_cascade_38 (v1 : Int) (v2 : Int) (v3 : Int) (v4 : Int) (m : YS) : Option (Int) :=
  it (fun s : Int × Int => nb_Y_cascade_38 v1 v2 s.1 s.2 m) (v3, v4)
theorem fL_Y_cascade_38 {w y : Prop} {g : g_S} {n : NS} {m : YS} (hy : y) {xv1 : Int32} {v1 : Int} (ev1 : xv1 = Int32.ofInt v1) (rv1 : inR v1) {xv2 : Int32} {v2 : Int} (ev2 : xv2 = Int32.ofInt v2) (rv2 : inR v2) {xv3 : Int32} {v3 : Int} (ev3 : xv3 = Int32.ofInt v3) (rv3 : inR v3) {xv4 : Int32} {v4 : Int} (ev4 : xv4 = Int32.ofInt v4) (rv4 : inR v4) (hR : RC w y g n m) : Rf (fun a b => RI a b) (L_Y_cascade_38 1838 xv1 xv2 xv3 xv4 g) (NL_Y_cascade_38 v1 v2 v3 v4 m) := by
  subst ev1
  subst ev2
  subst ev3
  subst ev4
  unfold L_Y_cascade_38 NL_Y_cascade_38
  refine rf_it (I := (fun a b => RI a.1 b.1 ∧ RI a.2 b.2)) (fun s t h => ?_) ⟨⟨rfl, rv3⟩, ⟨rfl, rv4⟩⟩
  exact fb_Y_cascade_38 hy rfl rv1 rfl rv2 h.1.1 h.1.2 h.2.1 h.2.2 hR
theorem NL_Y_cascade_38_eq (v1 : Int) (v2 : Int) (v3 : Int) (v4 : Int) (m : YS) : NL_Y_cascade_38 v1 v2 v3 v4 m = itc (nb_Y_cascade_38 v1 v2 v3 v4 m) (fun s => NL_Y_cascade_38 v1 v2 s.1 s.2 m) := it_eq2 (fun s : Int × Int => nb_Y_cascade_38 v1 v2 s.1 s.2 m) (v3, v4)
noncomputable def nk_Y_cascade_175 (v1 : Int) (v2 : Int) (w0 : Int) (w1 : Int) (m : YS) : Option ((Int × YS) ⊕ (YS)) :=
  ix w1 1320 <|
  st (yw m 105 w1 w0) fun m2 =>
  ck (v2 + 1) <|
  some (.inl (v2 + 1, m2))
theorem fk_Y_cascade_175 {w y : Prop} {g : g_S} {n : NS} {m : YS} (hy : y) {xv1 : Int32} {v1 : Int} (ev1 : xv1 = Int32.ofInt v1) (rv1 : inR v1) {xv2 : Int32} {v2 : Int} (ev2 : xv2 = Int32.ofInt v2) (rv2 : inR v2) {xw0 : Int32} {w0 : Int} (ew0 : xw0 = Int32.ofInt w0) (rw0 : inR w0) {xw1 : Int32} {w1 : Int} (ew1 : xw1 = Int32.ofInt w1) (rw1 : inR w1) (hR : RC w y g n m) : Rf (RS (fun a b => RI a.1 b.1 ∧ RC w y a.2 n b.2) (fun a b => RC w y a n b)) (k_Y_cascade_175 1838 xv1 xv2 xw0 xw1 (yAd 105) g) (nk_Y_cascade_175 v1 v2 w0 w1 m) := by
  subst ev1
  subst ev2
  subst ew0
  subst ew1
  unfold k_Y_cascade_175 nk_Y_cascade_175
  refine y_sI hR hy ya105 yl105 rfl rw1 rfl rw0 (fun g4 m2 hR3 => ?_)
  refine rf_ck (fun h5 => ?_)
  exact rf_ok (by exact ⟨⟨(e_add rfl (e_n 1)), h5⟩, hR3⟩)
noncomputable def nb_Y_cascade_27 (v1 : Int) (v2 : Int) (m : YS) : Option ((Int × YS) ⊕ (YS)) :=
  if v2 < 11 then
    (NL_Y_cascade_38 v1 v2 (-1) 0 m).bind <| fun z2 =>
    ck (11 * v1) <|
    ck ((11 * v1) + v2) <|
    if z2 = (-1) then
      (N_Y_first v1 v2 m).bind fun z10 =>
      nk_Y_cascade_175 v1 v2 z10 ((11 * v1) + v2) m
    else
      ck (11 * z2) <|
      ck ((11 * z2) + v2) <|
      ix ((11 * z2) + v2) 451 <|
      nk_Y_cascade_175 v1 v2 (m 98 ((11 * z2) + v2)) ((11 * v1) + v2) m
  else
    some (.inr m)
theorem fb_Y_cascade_27 {w y : Prop} {g : g_S} {n : NS} {m : YS} (hy : y) {xv1 : Int32} {v1 : Int} (ev1 : xv1 = Int32.ofInt v1) (rv1 : inR v1) {xv2 : Int32} {v2 : Int} (ev2 : xv2 = Int32.ofInt v2) (rv2 : inR v2) (hR : RC w y g n m) : Rf (RS (fun a b => RI a.1 b.1 ∧ RC w y a.2 n b.2) (fun a b => RC w y a n b)) (b_Y_cascade_27 1838 xv1 xv2 g) (nb_Y_cascade_27 v1 v2 m) := by
  subst ev1
  subst ev2
  unfold b_Y_cascade_27 nb_Y_cascade_27
  refine rf_lt rfl (e_n 11) rv2 (show inR 11 by decide) ?_ ?_
  · refine rf_bind (fL_Y_cascade_38 hy rfl rv1 rfl rv2 (e_m 1) (show inR (-1) by decide) (e_n 0) (show inR 0 by decide) hR) (fun a3 z2 h => ?_)
    obtain ⟨rfl, r4⟩ := (show RI a3 z2 from h)
    refine y_Q hR hy ya105.1 (by decide) ?_
    refine rf_ck (fun h6 => ?_)
    refine rf_ck (fun h7 => ?_)
    refine rf_eq rfl (e_m 1) r4 (show inR (-1) by decide) ?_ ?_
    · refine v_c (y_gt hR hy) ?_
      refine rf_bind (f_Y_first hy rfl rv1 rfl rv2 hR) (fun a12 z10 h => ?_)
      obtain ⟨rfl, r11⟩ := h
      exact fk_Y_cascade_175 hy rfl rv1 rfl rv2 rfl r11 (e_add (e_mul (e_n 11) rfl) rfl) h7 hR
    · refine y_Q hR hy ya98.1 (by decide) ?_
      refine rf_ck (fun h14 => ?_)
      refine rf_ck (fun h15 => ?_)
      refine y_aI hR hy ya98 yl98 (e_add (e_mul (e_n 11) rfl) rfl) h15 (fun h16 h17 => ?_)
      exact fk_Y_cascade_175 hy rfl rv1 rfl rv2 rfl h17 (e_add (e_mul (e_n 11) rfl) rfl) h7 hR
  · exact rf_ok (by exact hR)
noncomputable def NL_Y_cascade_27 (v1 : Int) (v2 : Int) (m : YS) : Option (YS) :=
  it (fun s : Int × YS => nb_Y_cascade_27 v1 s.1 s.2) (v2, m)
theorem fL_Y_cascade_27 {w y : Prop} {g : g_S} {n : NS} {m : YS} (hy : y) {xv1 : Int32} {v1 : Int} (ev1 : xv1 = Int32.ofInt v1) (rv1 : inR v1) {xv2 : Int32} {v2 : Int} (ev2 : xv2 = Int32.ofInt v2) (rv2 : inR v2) (hR : RC w y g n m) : Rf (fun a b => RC w y a n b) (L_Y_cascade_27 1838 xv1 xv2 g) (NL_Y_cascade_27 v1 v2 m) := by
  subst ev1
  subst ev2
  unfold L_Y_cascade_27 NL_Y_cascade_27
  refine rf_it (I := (fun a b => RI a.1 b.1 ∧ RC w y a.2 n b.2)) (fun s t h => ?_) ⟨⟨rfl, rv2⟩, hR⟩
  exact fb_Y_cascade_27 hy rfl rv1 h.1.1 h.1.2 h.2
theorem NL_Y_cascade_27_eq (v1 : Int) (v2 : Int) (m : YS) : NL_Y_cascade_27 v1 v2 m = itc (nb_Y_cascade_27 v1 v2 m) (fun s => NL_Y_cascade_27 v1 s.1 s.2) := it_eq2 (fun s : Int × YS => nb_Y_cascade_27 v1 s.1 s.2) (v2, m)
noncomputable def nk_Y_cascade_306 (v1 : Int) (m : YS) : Option ((Int × YS) ⊕ (YS)) :=
  (N_Y_after v1 0 m).bind fun z2 =>
  some (.inl (z2, m))
theorem fk_Y_cascade_306 {w y : Prop} {g : g_S} {n : NS} {m : YS} (hy : y) {xv1 : Int32} {v1 : Int} (ev1 : xv1 = Int32.ofInt v1) (rv1 : inR v1) (hR : RC w y g n m) : Rf (RS (fun a b => RI a.1 b.1 ∧ RC w y a.2 n b.2) (fun a b => RC w y a n b)) (k_Y_cascade_306 1838 xv1 g) (nk_Y_cascade_306 v1 m) := by
  subst ev1
  unfold k_Y_cascade_306 nk_Y_cascade_306
  refine v_c (y_gt hR hy) ?_
  refine rf_bind (f_Y_after hy rfl rv1 (e_n 0) (show inR 0 by decide) hR) (fun a4 z2 h => ?_)
  obtain ⟨rfl, r3⟩ := h
  exact rf_ok (by exact ⟨⟨rfl, r3⟩, hR⟩)
noncomputable def nk_Y_cascade_273 (v1 : Int) (w0 : Int) (w1 : Int) (m : YS) : Option ((Int × YS) ⊕ (YS)) :=
  ix w1 1320 <|
  st (yw m 105 w1 w0) fun m2 =>
  nk_Y_cascade_306 v1 m2
theorem fk_Y_cascade_273 {w y : Prop} {g : g_S} {n : NS} {m : YS} (hy : y) {xv1 : Int32} {v1 : Int} (ev1 : xv1 = Int32.ofInt v1) (rv1 : inR v1) {xw0 : Int32} {w0 : Int} (ew0 : xw0 = Int32.ofInt w0) (rw0 : inR w0) {xw1 : Int32} {w1 : Int} (ew1 : xw1 = Int32.ofInt w1) (rw1 : inR w1) (hR : RC w y g n m) : Rf (RS (fun a b => RI a.1 b.1 ∧ RC w y a.2 n b.2) (fun a b => RC w y a n b)) (k_Y_cascade_273 1838 xv1 xw0 xw1 (yAd 105) g) (nk_Y_cascade_273 v1 w0 w1 m) := by
  subst ev1
  subst ew0
  subst ew1
  unfold k_Y_cascade_273 nk_Y_cascade_273
  refine y_sI hR hy ya105 yl105 rfl rw1 rfl rw0 (fun g4 m2 hR3 => ?_)
  exact fk_Y_cascade_306 hy rfl rv1 hR3
noncomputable def nk_Y_cascade_235 (v1 : Int) (v2 : Int) (v3 : Int) (m : YS) : Option ((Int × YS) ⊕ (YS)) :=
  if v1 = 0 then
    ix v3 1320 <|
    st (yw m 105 v3 0) fun m4 =>
    nk_Y_cascade_306 v1 m4
  else
    if v2 = 0 then
      ck (v3 + 10) <|
      ix (v3 + 10) 1320 <|
      if 0 < (m 105 (v3 + 10)) then
        ix v3 1320 <|
        if (m 105 v3) = 1 then
          ix v3 1320 <|
          st (yw m 105 v3 0) fun m19 =>
          nk_Y_cascade_306 v1 m19
        else
          nk_Y_cascade_306 v1 m
      else
        nk_Y_cascade_306 v1 m
    else
      ix v3 1320 <|
      if (m 105 v3) = 2 then
        nk_Y_cascade_273 v1 2 v3 m
      else
        nk_Y_cascade_273 v1 1 v3 m
theorem fk_Y_cascade_235 {w y : Prop} {g : g_S} {n : NS} {m : YS} (hy : y) {xv1 : Int32} {v1 : Int} (ev1 : xv1 = Int32.ofInt v1) (rv1 : inR v1) {xv2 : Int32} {v2 : Int} (ev2 : xv2 = Int32.ofInt v2) (rv2 : inR v2) {xv3 : Int32} {v3 : Int} (ev3 : xv3 = Int32.ofInt v3) (rv3 : inR v3) (hR : RC w y g n m) : Rf (RS (fun a b => RI a.1 b.1 ∧ RC w y a.2 n b.2) (fun a b => RC w y a n b)) (k_Y_cascade_235 1838 xv1 xv2 xv3 g) (nk_Y_cascade_235 v1 v2 v3 m) := by
  subst ev1
  subst ev2
  subst ev3
  unfold k_Y_cascade_235 nk_Y_cascade_235
  refine rf_eq rfl (e_n 0) rv1 (show inR 0 by decide) ?_ ?_
  · refine y_Q hR hy ya105.1 (by decide) ?_
    refine y_sI hR hy ya105 yl105 rfl rv3 (e_n 0) (show inR 0 by decide) (fun g6 m4 hR5 => ?_)
    exact fk_Y_cascade_306 hy rfl rv1 hR5
  · refine rf_eq rfl (e_n 0) rv2 (show inR 0 by decide) ?_ ?_
    · refine y_Q hR hy ya105.1 (by decide) ?_
      refine rf_ck (fun h9 => ?_)
      refine y_aI hR hy ya105 yl105 (e_add rfl (e_n 10)) h9 (fun h10 h11 => ?_)
      refine rf_lt (e_n 0) rfl (show inR 0 by decide) h11 ?_ ?_
      · refine y_Q hR hy ya105.1 (by decide) ?_
        refine y_aI hR hy ya105 yl105 rfl rv3 (fun h14 h15 => ?_)
        refine rf_eq rfl (e_n 1) h15 (show inR 1 by decide) ?_ ?_
        · refine y_Q hR hy ya105.1 (by decide) ?_
          refine y_sI hR hy ya105 yl105 rfl rv3 (e_n 0) (show inR 0 by decide) (fun g21 m19 hR20 => ?_)
          exact fk_Y_cascade_306 hy rfl rv1 hR20
        · exact fk_Y_cascade_306 hy rfl rv1 hR
      · exact fk_Y_cascade_306 hy rfl rv1 hR
    · refine y_Q hR hy ya105.1 (by decide) ?_
      refine y_Q hR hy ya105.1 (by decide) ?_
      refine y_aI hR hy ya105 yl105 rfl rv3 (fun h24 h25 => ?_)
      refine rf_eq rfl (e_n 2) h25 (show inR 2 by decide) ?_ ?_
      · exact fk_Y_cascade_273 hy rfl rv1 (e_n 2) (show inR 2 by decide) rfl rv3 hR
      · exact fk_Y_cascade_273 hy rfl rv1 (e_n 1) (show inR 1 by decide) rfl rv3 hR
noncomputable def nk_Y_cascade_225 (v1 : Int) (v2 : Int) (v3 : Int) (m : YS) : Option ((Int × YS) ⊕ (YS)) :=
  ck (v3 + 10) <|
  ix (v3 + 10) 1320 <|
  st (yw m 105 (v3 + 10) 0) fun m4 =>
  nk_Y_cascade_235 v1 v2 v3 m4
theorem fk_Y_cascade_225 {w y : Prop} {g : g_S} {n : NS} {m : YS} (hy : y) {xv1 : Int32} {v1 : Int} (ev1 : xv1 = Int32.ofInt v1) (rv1 : inR v1) {xv2 : Int32} {v2 : Int} (ev2 : xv2 = Int32.ofInt v2) (rv2 : inR v2) {xv3 : Int32} {v3 : Int} (ev3 : xv3 = Int32.ofInt v3) (rv3 : inR v3) (hR : RC w y g n m) : Rf (RS (fun a b => RI a.1 b.1 ∧ RC w y a.2 n b.2) (fun a b => RC w y a n b)) (k_Y_cascade_225 1838 xv1 xv2 xv3 g) (nk_Y_cascade_225 v1 v2 v3 m) := by
  subst ev1
  subst ev2
  subst ev3
  unfold k_Y_cascade_225 nk_Y_cascade_225
  refine y_Q hR hy ya105.1 (by decide) ?_
  refine rf_ck (fun h2 => ?_)
  refine y_sI hR hy ya105 yl105 (e_add rfl (e_n 10)) h2 (e_n 0) (show inR 0 by decide) (fun g6 m4 hR5 => ?_)
  exact fk_Y_cascade_235 hy rfl rv1 rfl rv2 rfl rv3 hR5
noncomputable def nk_Y_cascade_211 (v1 : Int) (w0 : Int) (m : YS) : Option ((Int × YS) ⊕ (YS)) :=
  ck (11 * v1) <|
  if v1 = 0 then
    nk_Y_cascade_225 v1 w0 (11 * v1) m
  else
    if w0 = 0 then
      nk_Y_cascade_235 v1 w0 (11 * v1) m
    else
      nk_Y_cascade_225 v1 w0 (11 * v1) m
theorem fk_Y_cascade_211 {w y : Prop} {g : g_S} {n : NS} {m : YS} (hy : y) {xv1 : Int32} {v1 : Int} (ev1 : xv1 = Int32.ofInt v1) (rv1 : inR v1) {xw0 : Int32} {w0 : Int} (ew0 : xw0 = Int32.ofInt w0) (rw0 : inR w0) (hR : RC w y g n m) : Rf (RS (fun a b => RI a.1 b.1 ∧ RC w y a.2 n b.2) (fun a b => RC w y a n b)) (k_Y_cascade_211 1838 xv1 xw0 g) (nk_Y_cascade_211 v1 w0 m) := by
  subst ev1
  subst ew0
  unfold k_Y_cascade_211 nk_Y_cascade_211
  refine rf_ck (fun h1 => ?_)
  refine rf_eq rfl (e_n 0) rv1 (show inR 0 by decide) ?_ ?_
  · exact fk_Y_cascade_225 hy rfl rv1 rfl rw0 (e_mul (e_n 11) rfl) h1 hR
  · refine rf_eq rfl (e_n 0) rw0 (show inR 0 by decide) ?_ ?_
    · exact fk_Y_cascade_235 hy rfl rv1 rfl rw0 (e_mul (e_n 11) rfl) h1 hR
    · exact fk_Y_cascade_225 hy rfl rv1 rfl rw0 (e_mul (e_n 11) rfl) h1 hR
noncomputable def nk_Y_cascade_206 (v1 : Int) (m : YS) : Option ((Int × YS) ⊕ (YS)) :=
  nk_Y_cascade_211 v1 1 m
theorem fk_Y_cascade_206 {w y : Prop} {g : g_S} {n : NS} {m : YS} (hy : y) {xv1 : Int32} {v1 : Int} (ev1 : xv1 = Int32.ofInt v1) (rv1 : inR v1) (hR : RC w y g n m) : Rf (RS (fun a b => RI a.1 b.1 ∧ RC w y a.2 n b.2) (fun a b => RC w y a n b)) (k_Y_cascade_206 1838 xv1 g) (nk_Y_cascade_206 v1 m) := by
  subst ev1
  unfold k_Y_cascade_206 nk_Y_cascade_206
  exact fk_Y_cascade_211 hy rfl rv1 (e_n 1) (show inR 1 by decide) hR
noncomputable def nb_Y_cascade_6 (v1 : Int) (m : YS) : Option ((Int × YS) ⊕ (YS)) :=
  if v1 = (-1) then
    some (.inr m)
  else
    ix v1 120 <|
    if (m 46 v1) = 17 then
      nk_Y_cascade_306 v1 m
    else
      (NL_Y_cascade_27 v1 0 m).bind <| fun m6 =>
      ix v1 120 <|
      if (m6 46 v1) = 10 then
        nk_Y_cascade_206 v1 m6
      else
        ix v1 120 <|
        (N_Y_isPieceTag (m6 46 v1) m6).bind fun z17 =>
        if z17 = 0 then
          nk_Y_cascade_211 v1 0 m6
        else
          nk_Y_cascade_206 v1 m6
theorem fb_Y_cascade_6 {w y : Prop} {g : g_S} {n : NS} {m : YS} (hy : y) {xv1 : Int32} {v1 : Int} (ev1 : xv1 = Int32.ofInt v1) (rv1 : inR v1) (hR : RC w y g n m) : Rf (RS (fun a b => RI a.1 b.1 ∧ RC w y a.2 n b.2) (fun a b => RC w y a n b)) (b_Y_cascade_6 1838 xv1 g) (nb_Y_cascade_6 v1 m) := by
  subst ev1
  unfold b_Y_cascade_6 nb_Y_cascade_6
  refine rf_eq rfl (e_m 1) rv1 (show inR (-1) by decide) ?_ ?_
  · exact rf_ok (by exact hR)
  · refine y_Q hR hy ya46.1 (by decide) ?_
    refine y_aI hR hy ya46 yl46 rfl rv1 (fun h3 h4 => ?_)
    refine rf_eq rfl (e_n 17) h4 (show inR 17 by decide) ?_ ?_
    · exact fk_Y_cascade_306 hy rfl rv1 hR
    · refine rf_bind (fL_Y_cascade_27 hy rfl rv1 (e_n 0) (show inR 0 by decide) hR) (fun a7 m6 h => ?_)
      have hR8 : RC w y a7 n m6 := h
      refine y_Q hR8 hy ya46.1 (by decide) ?_
      refine y_aI hR8 hy ya46 yl46 rfl rv1 (fun h10 h11 => ?_)
      refine rf_eq rfl (e_n 10) h11 (show inR 10 by decide) ?_ ?_
      · exact fk_Y_cascade_206 hy rfl rv1 hR8
      · refine y_Q hR8 hy ya46.1 (by decide) ?_
        refine y_aI hR8 hy ya46 yl46 rfl rv1 (fun h14 h15 => ?_)
        refine v_c (y_gt hR8 hy) ?_
        refine rf_bind (f_Y_isPieceTag hy rfl h15 hR8) (fun a19 z17 h => ?_)
        obtain ⟨rfl, r18⟩ := h
        refine rf_eq rfl (e_n 0) (inZ.r r18) (show inR 0 by decide) ?_ ?_
        · exact fk_Y_cascade_211 hy rfl rv1 (e_n 0) (show inR 0 by decide) hR8
        · exact fk_Y_cascade_206 hy rfl rv1 hR8
noncomputable def NL_Y_cascade_6 (v1 : Int) (m : YS) : Option (YS) :=
  it (fun s : Int × YS => nb_Y_cascade_6 s.1 s.2) (v1, m)
theorem fL_Y_cascade_6 {w y : Prop} {g : g_S} {n : NS} {m : YS} (hy : y) {xv1 : Int32} {v1 : Int} (ev1 : xv1 = Int32.ofInt v1) (rv1 : inR v1) (hR : RC w y g n m) : Rf (fun a b => RC w y a n b) (L_Y_cascade_6 1838 xv1 g) (NL_Y_cascade_6 v1 m) := by
  subst ev1
  unfold L_Y_cascade_6 NL_Y_cascade_6
  refine rf_it (I := (fun a b => RI a.1 b.1 ∧ RC w y a.2 n b.2)) (fun s t h => ?_) ⟨⟨rfl, rv1⟩, hR⟩
  exact fb_Y_cascade_6 hy h.1.1 h.1.2 h.2
theorem NL_Y_cascade_6_eq (v1 : Int) (m : YS) : NL_Y_cascade_6 v1 m = itc (nb_Y_cascade_6 v1 m) (fun s => NL_Y_cascade_6 s.1 s.2) := it_eq2 (fun s : Int × YS => nb_Y_cascade_6 s.1 s.2) (v1, m)
noncomputable def N_Y_cascade (m : YS) : Option (YS) :=
  (N_Y_readStyles m).bind fun m2 =>
  (NL_Y_cascade_6 0 m2).bind <| fun m5 =>
  some m5
theorem f_Y_cascade {w y : Prop} {g : g_S} {n : NS} {m : YS} (hy : y) (hR : RC w y g n m) : Rf (fun a b => RC w y a n b) (M_Y_cascade 1838 g) (N_Y_cascade m) := by
  unfold M_Y_cascade N_Y_cascade
  refine v_c (y_gt hR hy) ?_
  refine rf_bind (f_Y_readStyles hy hR) (fun g4 m2 hR3 => ?_)
  refine rf_bind (fL_Y_cascade_6 hy (e_n 0) (show inR 0 by decide) hR3) (fun a6 m5 h => ?_)
  have hR7 : RC w y a6 n m5 := h
  exact rf_ok (by exact hR7)
noncomputable def N_Y_isBox (v1 : Int) (m : YS) : Option (Int) :=
  ix v1 120 <|
  if (m 107 v1) = 1 then
    some 1
  else
    ix v1 120 <|
    if (m 107 v1) = 2 then
      some 1
    else
      some 0
theorem f_Y_isBox {w y : Prop} {g : g_S} {n : NS} {m : YS} (hy : y) {xv1 : Int32} {v1 : Int} (ev1 : xv1 = Int32.ofInt v1) (rv1 : inR v1) (hR : RC w y g n m) : Rf (fun a b => RZ a b) (M_Y_isBox 1838 xv1 g) (N_Y_isBox v1 m) := by
  subst ev1
  unfold M_Y_isBox N_Y_isBox
  refine y_Q hR hy ya107.1 (by decide) ?_
  refine y_aI hR hy ya107 yl107 rfl rv1 (fun h2 h3 => ?_)
  refine rf_eq rfl (e_n 1) h3 (show inR 1 by decide) ?_ ?_
  · exact rf_ok (by exact ⟨(e_n 1), (.inr rfl)⟩)
  · refine y_Q hR hy ya107.1 (by decide) ?_
    refine y_aI hR hy ya107 yl107 rfl rv1 (fun h7 h8 => ?_)
    refine rf_eq rfl (e_n 2) h8 (show inR 2 by decide) ?_ ?_
    · exact rf_ok (by exact ⟨(e_n 1), (.inr rfl)⟩)
    · exact rf_ok (by exact ⟨(e_n 0), (.inl rfl)⟩)
noncomputable def N_Y_modeOf (v1 : Int) (m : YS) : Option (Int) :=
  ix v1 120 <|
  ix (m 49 v1) 120 <|
  ix v1 120 <|
  if (m 107 (m 49 v1)) = 0 then
    some 0
  else
    if (m 107 (m 49 v1)) = 4 then
      some 0
    else
      if (m 107 (m 49 v1)) = 5 then
        some 0
      else
        if (m 46 v1) = 17 then
          if (m 107 (m 49 v1)) = 2 then
            some 0
          else
            some 6
        else
          (N_Y_of v1 0 m).bind fun z21 =>
          if z21 = 2 then
            some 0
          else
            (N_Y_isPieceTag (m 46 v1) m).bind fun z27 =>
            if z27 = 0 then
              if (m 46 v1) = 10 then
                if (m 107 (m 49 v1)) = 2 then
                  some 0
                else
                  some 5
              else
                if (m 107 (m 49 v1)) = 2 then
                  (N_Y_of v1 0 m).bind fun z37 =>
                  if z37 = 3 then
                    some 2
                  else
                    some 1
                else
                  if (m 107 (m 49 v1)) = 3 then
                    if (m 46 v1) = 11 then
                      some 0
                    else
                      some 3
                  else
                    (N_Y_of v1 0 m).bind fun z48 =>
                    if z48 = 1 then
                      some 3
                    else
                      (N_Y_of v1 0 m).bind fun z54 =>
                      if z54 = 3 then
                        some 2
                      else
                        some 1
            else
              some 4
theorem f_Y_modeOf {w y : Prop} {g : g_S} {n : NS} {m : YS} (hy : y) {xv1 : Int32} {v1 : Int} (ev1 : xv1 = Int32.ofInt v1) (rv1 : inR v1) (hR : RC w y g n m) : Rf (fun a b => RI a b) (M_Y_modeOf 1838 xv1 g) (N_Y_modeOf v1 m) := by
  subst ev1
  unfold M_Y_modeOf N_Y_modeOf
  refine y_Q hR hy ya49.1 (by decide) ?_
  refine y_aI hR hy ya49 yl49 rfl rv1 (fun h2 h3 => ?_)
  refine y_Q hR hy ya107.1 (by decide) ?_
  refine y_aI hR hy ya107 yl107 rfl h3 (fun h5 h6 => ?_)
  refine y_Q hR hy ya46.1 (by decide) ?_
  refine y_aI hR hy ya46 yl46 rfl rv1 (fun h8 h9 => ?_)
  refine rf_eq rfl (e_n 0) h6 (show inR 0 by decide) ?_ ?_
  · exact rf_ok (by exact ⟨(e_n 0), (show inR 0 by decide)⟩)
  · refine rf_eq rfl (e_n 4) h6 (show inR 4 by decide) ?_ ?_
    · exact rf_ok (by exact ⟨(e_n 0), (show inR 0 by decide)⟩)
    · refine rf_eq rfl (e_n 5) h6 (show inR 5 by decide) ?_ ?_
      · exact rf_ok (by exact ⟨(e_n 0), (show inR 0 by decide)⟩)
      · refine rf_eq rfl (e_n 17) h9 (show inR 17 by decide) ?_ ?_
        · refine rf_eq rfl (e_n 2) h6 (show inR 2 by decide) ?_ ?_
          · exact rf_ok (by exact ⟨(e_n 0), (show inR 0 by decide)⟩)
          · exact rf_ok (by exact ⟨(e_n 6), (show inR 6 by decide)⟩)
        · refine v_c (y_gt hR hy) ?_
          refine rf_bind (f_Y_of hy rfl rv1 (e_n 0) (show inR 0 by decide) hR) (fun a23 z21 h => ?_)
          obtain ⟨rfl, r22⟩ := h
          refine rf_eq rfl (e_n 2) r22 (show inR 2 by decide) ?_ ?_
          · exact rf_ok (by exact ⟨(e_n 0), (show inR 0 by decide)⟩)
          · refine v_c (y_gt hR hy) ?_
            refine rf_bind (f_Y_isPieceTag hy rfl h9 hR) (fun a29 z27 h => ?_)
            obtain ⟨rfl, r28⟩ := h
            refine rf_eq rfl (e_n 0) (inZ.r r28) (show inR 0 by decide) ?_ ?_
            · refine rf_eq rfl (e_n 10) h9 (show inR 10 by decide) ?_ ?_
              · refine rf_eq rfl (e_n 2) h6 (show inR 2 by decide) ?_ ?_
                · exact rf_ok (by exact ⟨(e_n 0), (show inR 0 by decide)⟩)
                · exact rf_ok (by exact ⟨(e_n 5), (show inR 5 by decide)⟩)
              · refine rf_eq rfl (e_n 2) h6 (show inR 2 by decide) ?_ ?_
                · refine v_c (y_gt hR hy) ?_
                  refine rf_bind (f_Y_of hy rfl rv1 (e_n 0) (show inR 0 by decide) hR) (fun a39 z37 h => ?_)
                  obtain ⟨rfl, r38⟩ := h
                  refine rf_eq rfl (e_n 3) r38 (show inR 3 by decide) ?_ ?_
                  · exact rf_ok (by exact ⟨(e_n 2), (show inR 2 by decide)⟩)
                  · exact rf_ok (by exact ⟨(e_n 1), (show inR 1 by decide)⟩)
                · refine rf_eq rfl (e_n 3) h6 (show inR 3 by decide) ?_ ?_
                  · refine rf_eq rfl (e_n 11) h9 (show inR 11 by decide) ?_ ?_
                    · exact rf_ok (by exact ⟨(e_n 0), (show inR 0 by decide)⟩)
                    · exact rf_ok (by exact ⟨(e_n 3), (show inR 3 by decide)⟩)
                  · refine v_c (y_gt hR hy) ?_
                    refine rf_bind (f_Y_of hy rfl rv1 (e_n 0) (show inR 0 by decide) hR) (fun a50 z48 h => ?_)
                    obtain ⟨rfl, r49⟩ := h
                    refine rf_eq rfl (e_n 1) r49 (show inR 1 by decide) ?_ ?_
                    · exact rf_ok (by exact ⟨(e_n 3), (show inR 3 by decide)⟩)
                    · refine v_c (y_gt hR hy) ?_
                      refine rf_bind (f_Y_of hy rfl rv1 (e_n 0) (show inR 0 by decide) hR) (fun a56 z54 h => ?_)
                      obtain ⟨rfl, r55⟩ := h
                      refine rf_eq rfl (e_n 3) r55 (show inR 3 by decide) ?_ ?_
                      · exact rf_ok (by exact ⟨(e_n 2), (show inR 2 by decide)⟩)
                      · exact rf_ok (by exact ⟨(e_n 1), (show inR 1 by decide)⟩)
            · exact rf_ok (by exact ⟨(e_n 4), (show inR 4 by decide)⟩)
noncomputable def N_Y_edges (v1 : Int) (m : YS) : Option (Int) :=
  (N_Y_of v1 4 m).bind fun z2 =>
  (N_Y_of v1 5 m).bind fun z6 =>
  ck (z2 + z6) <|
  some (z2 + z6)
theorem f_Y_edges {w y : Prop} {g : g_S} {n : NS} {m : YS} (hy : y) {xv1 : Int32} {v1 : Int} (ev1 : xv1 = Int32.ofInt v1) (rv1 : inR v1) (hR : RC w y g n m) : Rf (fun a b => RI a b) (M_Y_edges 1838 xv1 g) (N_Y_edges v1 m) := by
  subst ev1
  unfold M_Y_edges N_Y_edges
  refine v_c (y_gt hR hy) ?_
  refine rf_bind (f_Y_of hy rfl rv1 (e_n 4) (show inR 4 by decide) hR) (fun a4 z2 h => ?_)
  obtain ⟨rfl, r3⟩ := h
  refine v_c (y_gt hR hy) ?_
  refine rf_bind (f_Y_of hy rfl rv1 (e_n 5) (show inR 5 by decide) hR) (fun a8 z6 h => ?_)
  obtain ⟨rfl, r7⟩ := h
  refine rf_ck (fun h9 => ?_)
  exact rf_ok (by exact ⟨(e_add rfl rfl), h9⟩)
noncomputable def N_Y_inner (v1 : Int) (m : YS) : Option (Int) :=
  ix v1 120 <|
  (N_Y_edges v1 m).bind fun z5 =>
  ck (2 * z5) <|
  ck ((m 112 v1) - (2 * z5)) <|
  some (max 0 ((m 112 v1) - (2 * z5)))
theorem f_Y_inner {w y : Prop} {g : g_S} {n : NS} {m : YS} (hy : y) {xv1 : Int32} {v1 : Int} (ev1 : xv1 = Int32.ofInt v1) (rv1 : inR v1) (hR : RC w y g n m) : Rf (fun a b => RI a b) (M_Y_inner 1838 xv1 g) (N_Y_inner v1 m) := by
  subst ev1
  unfold M_Y_inner N_Y_inner
  refine y_Q hR hy ya112.1 (by decide) ?_
  refine y_aI hR hy ya112 yl112 rfl rv1 (fun h2 h3 => ?_)
  refine v_c (y_gt hR hy) ?_
  refine rf_bind (f_Y_edges hy rfl rv1 hR) (fun a7 z5 h => ?_)
  obtain ⟨rfl, r6⟩ := h
  refine rf_ck (fun h8 => ?_)
  refine rf_ck (fun h9 => ?_)
  exact rf_ok (by exact ⟨(e_mx (e_n 0) (e_sub rfl (e_mul (e_n 2) rfl)) (show inR 0 by decide) h9), (max_r (show inR 0 by decide) h9)⟩)
noncomputable def N_Y_told (v1 : Int) (v2 : Int) (m : YS) : Option (Int) :=
  (N_Y_of v1 6 m).bind fun z2 =>
  if z2 < 1000 then
    some z2
  else
    ck (z2 - 1000) <|
    ck (v2 * (z2 - 1000)) <|
    cd (v2 * (z2 - 1000)) 100 <|
    some ((v2 * (z2 - 1000)) / 100)
theorem f_Y_told {w y : Prop} {g : g_S} {n : NS} {m : YS} (hy : y) {xv1 : Int32} {v1 : Int} (ev1 : xv1 = Int32.ofInt v1) (rv1 : inR v1) {xv2 : Int32} {v2 : Int} (ev2 : xv2 = Int32.ofInt v2) (rv2 : inR v2) (hR : RC w y g n m) : Rf (fun a b => RI a b) (M_Y_told 1838 xv1 xv2 g) (N_Y_told v1 v2 m) := by
  subst ev1
  subst ev2
  unfold M_Y_told N_Y_told
  refine v_c (y_gt hR hy) ?_
  refine rf_bind (f_Y_of hy rfl rv1 (e_n 6) (show inR 6 by decide) hR) (fun a4 z2 h => ?_)
  obtain ⟨rfl, r3⟩ := h
  refine rf_lt rfl (e_n 1000) r3 (show inR 1000 by decide) ?_ ?_
  · exact rf_ok (by exact ⟨rfl, r3⟩)
  · refine rf_ck (fun h7 => ?_)
    refine rf_ck (fun h8 => ?_)
    refine rf_dv (e_mul rfl (e_sub rfl (e_n 1000))) (e_n 100) h8 (show inR 100 by decide) (fun h9 => ?_)
    exact rf_ok (by exact ⟨rfl, h9⟩)
noncomputable def N_Y_glyph (v0 : Int) (m : YS) : Option (Int) :=
  if v0 = 105 then
    some 2
  else
    if v0 = 108 then
      some 2
    else
      if v0 = 106 then
        some 2
      else
        if v0 = 46 then
          some 2
        else
          if v0 = 44 then
            some 2
          else
            if v0 = 39 then
              some 2
            else
              if v0 = 58 then
                some 2
              else
                if v0 = 59 then
                  some 2
                else
                  if v0 = 33 then
                    some 2
                  else
                    if v0 = 124 then
                      some 2
                    else
                      if v0 = 109 then
                        some 5
                      else
                        if v0 = 119 then
                          some 5
                        else
                          if v0 = 77 then
                            some 5
                          else
                            if v0 = 87 then
                              some 5
                            else
                              if v0 = 64 then
                                some 5
                              else
                                some 4
theorem f_Y_glyph {w y : Prop} {g : g_S} {n : NS} {m : YS} (hy : y) {xv0 : Int32} {v0 : Int} (ev0 : xv0 = Int32.ofInt v0) (rv0 : inR v0) (hR : RC w y g n m) : Rf (fun a b => RI a b) (M_Y_glyph xv0 g) (N_Y_glyph v0 m) := by
  subst ev0
  unfold M_Y_glyph N_Y_glyph
  refine rf_eq rfl (e_n 105) rv0 (show inR 105 by decide) ?_ ?_
  · exact rf_ok (by exact ⟨(e_n 2), (show inR 2 by decide)⟩)
  · refine rf_eq rfl (e_n 108) rv0 (show inR 108 by decide) ?_ ?_
    · exact rf_ok (by exact ⟨(e_n 2), (show inR 2 by decide)⟩)
    · refine rf_eq rfl (e_n 106) rv0 (show inR 106 by decide) ?_ ?_
      · exact rf_ok (by exact ⟨(e_n 2), (show inR 2 by decide)⟩)
      · refine rf_eq rfl (e_n 46) rv0 (show inR 46 by decide) ?_ ?_
        · exact rf_ok (by exact ⟨(e_n 2), (show inR 2 by decide)⟩)
        · refine rf_eq rfl (e_n 44) rv0 (show inR 44 by decide) ?_ ?_
          · exact rf_ok (by exact ⟨(e_n 2), (show inR 2 by decide)⟩)
          · refine rf_eq rfl (e_n 39) rv0 (show inR 39 by decide) ?_ ?_
            · exact rf_ok (by exact ⟨(e_n 2), (show inR 2 by decide)⟩)
            · refine rf_eq rfl (e_n 58) rv0 (show inR 58 by decide) ?_ ?_
              · exact rf_ok (by exact ⟨(e_n 2), (show inR 2 by decide)⟩)
              · refine rf_eq rfl (e_n 59) rv0 (show inR 59 by decide) ?_ ?_
                · exact rf_ok (by exact ⟨(e_n 2), (show inR 2 by decide)⟩)
                · refine rf_eq rfl (e_n 33) rv0 (show inR 33 by decide) ?_ ?_
                  · exact rf_ok (by exact ⟨(e_n 2), (show inR 2 by decide)⟩)
                  · refine rf_eq rfl (e_n 124) rv0 (show inR 124 by decide) ?_ ?_
                    · exact rf_ok (by exact ⟨(e_n 2), (show inR 2 by decide)⟩)
                    · refine rf_eq rfl (e_n 109) rv0 (show inR 109 by decide) ?_ ?_
                      · exact rf_ok (by exact ⟨(e_n 5), (show inR 5 by decide)⟩)
                      · refine rf_eq rfl (e_n 119) rv0 (show inR 119 by decide) ?_ ?_
                        · exact rf_ok (by exact ⟨(e_n 5), (show inR 5 by decide)⟩)
                        · refine rf_eq rfl (e_n 77) rv0 (show inR 77 by decide) ?_ ?_
                          · exact rf_ok (by exact ⟨(e_n 5), (show inR 5 by decide)⟩)
                          · refine rf_eq rfl (e_n 87) rv0 (show inR 87 by decide) ?_ ?_
                            · exact rf_ok (by exact ⟨(e_n 5), (show inR 5 by decide)⟩)
                            · refine rf_eq rfl (e_n 64) rv0 (show inR 64 by decide) ?_ ?_
                              · exact rf_ok (by exact ⟨(e_n 5), (show inR 5 by decide)⟩)
                              · exact rf_ok (by exact ⟨(e_n 4), (show inR 4 by decide)⟩)
noncomputable def nb_Y_oneLine_43 (v1 : Int) (v5 : Int) (v6 : Int) (v2 : Int) (v3 : Int) (v4 : Int) (v7 : Int) (m : YS) : Option ((Int × Int × Int × Int) ⊕ (Int × Int × Int)) :=
  ix v5 120 <|
  if v7 < (m 62 v5) then
    ck (400 * v5) <|
    ck ((400 * v5) + v7) <|
    ix ((400 * v5) + v7) 48000 <|
    (N_Y_isBlank (m 61 ((400 * v5) + v7)) m).bind fun z11 =>
    if z11 = 0 then
      (N_Y_glyph (m 61 ((400 * v5) + v7)) m).bind fun z16 =>
      ck (z16 * v6) <|
      ck (v3 + (z16 * v6)) <|
      ck (v2 + (v3 + (z16 * v6))) <|
      ck (v7 + 1) <|
      some (.inl (v2 + (v3 + (z16 * v6)), 0, 1, v7 + 1))
    else
      if v4 = 0 then
        ck (v7 + 1) <|
        some (.inl (v2, v3, v4, v7 + 1))
      else
        if v3 = 0 then
          ck (3 * v6) <|
          ck (v7 + 1) <|
          some (.inl (v2, 3 * v6, v4, v7 + 1))
        else
          ck (v7 + 1) <|
          some (.inl (v2, v3, v4, v7 + 1))
  else
    some (.inr (v2, v3, v4))
theorem fb_Y_oneLine_43 {w y : Prop} {g : g_S} {n : NS} {m : YS} (hy : y) {xv1 : Int32} {v1 : Int} (ev1 : xv1 = Int32.ofInt v1) (rv1 : inR v1) {xv5 : Int32} {v5 : Int} (ev5 : xv5 = Int32.ofInt v5) (rv5 : inR v5) {xv6 : Int32} {v6 : Int} (ev6 : xv6 = Int32.ofInt v6) (rv6 : inR v6) {xv2 : Int32} {v2 : Int} (ev2 : xv2 = Int32.ofInt v2) (rv2 : inR v2) {xv3 : Int32} {v3 : Int} (ev3 : xv3 = Int32.ofInt v3) (rv3 : inR v3) {xv4 : Int32} {v4 : Int} (ev4 : xv4 = Int32.ofInt v4) (rv4 : inR v4) {xv7 : Int32} {v7 : Int} (ev7 : xv7 = Int32.ofInt v7) (rv7 : inR v7) (hR : RC w y g n m) : Rf (RS (fun a b => RI a.1 b.1 ∧ RI a.2.1 b.2.1 ∧ RI a.2.2.1 b.2.2.1 ∧ RI a.2.2.2 b.2.2.2) (fun a b => RI a.1 b.1 ∧ RI a.2.1 b.2.1 ∧ RI a.2.2 b.2.2)) (b_Y_oneLine_43 1838 xv1 xv5 xv6 xv2 xv3 xv4 xv7 g) (nb_Y_oneLine_43 v1 v5 v6 v2 v3 v4 v7 m) := by
  subst ev1
  subst ev5
  subst ev6
  subst ev2
  subst ev3
  subst ev4
  subst ev7
  unfold b_Y_oneLine_43 nb_Y_oneLine_43
  refine y_Q hR hy ya62.1 (by decide) ?_
  refine y_aI hR hy ya62 yl62 rfl rv5 (fun h2 h3 => ?_)
  refine rf_lt rfl rfl rv7 h3 ?_ ?_
  · refine y_Q hR hy ya61.1 (by decide) ?_
    refine rf_ck (fun h6 => ?_)
    refine rf_ck (fun h7 => ?_)
    refine y_aB hR hy ya61 yl61 (e_add (e_mul (e_n 400) rfl) rfl) h7 (fun h8 h9 => ?_)
    refine rf_bind (f_Y_isBlank hy rfl (inB.r h9) hR) (fun a13 z11 h => ?_)
    obtain ⟨rfl, r12⟩ := h
    refine rf_eq rfl (e_n 0) (inZ.r r12) (show inR 0 by decide) ?_ ?_
    · refine rf_bind (f_Y_glyph hy rfl (inB.r h9) hR) (fun a18 z16 h => ?_)
      obtain ⟨rfl, r17⟩ := h
      refine rf_ck (fun h19 => ?_)
      refine rf_ck (fun h20 => ?_)
      refine rf_ck (fun h21 => ?_)
      refine rf_ck (fun h22 => ?_)
      exact rf_ok (by exact ⟨⟨(e_add rfl (e_add rfl (e_mul rfl rfl))), h21⟩, ⟨(e_n 0), (show inR 0 by decide)⟩, ⟨(e_n 1), (show inR 1 by decide)⟩, ⟨(e_add rfl (e_n 1)), h22⟩⟩)
    · refine rf_eq rfl (e_n 0) rv4 (show inR 0 by decide) ?_ ?_
      · refine rf_ck (fun h24 => ?_)
        exact rf_ok (by exact ⟨⟨rfl, rv2⟩, ⟨rfl, rv3⟩, ⟨rfl, rv4⟩, ⟨(e_add rfl (e_n 1)), h24⟩⟩)
      · refine rf_eq rfl (e_n 0) rv3 (show inR 0 by decide) ?_ ?_
        · refine rf_ck (fun h26 => ?_)
          refine rf_ck (fun h27 => ?_)
          exact rf_ok (by exact ⟨⟨rfl, rv2⟩, ⟨(e_mul (e_n 3) rfl), h26⟩, ⟨rfl, rv4⟩, ⟨(e_add rfl (e_n 1)), h27⟩⟩)
        · refine rf_ck (fun h28 => ?_)
          exact rf_ok (by exact ⟨⟨rfl, rv2⟩, ⟨rfl, rv3⟩, ⟨rfl, rv4⟩, ⟨(e_add rfl (e_n 1)), h28⟩⟩)
  · exact rf_ok (by exact ⟨⟨rfl, rv2⟩, ⟨rfl, rv3⟩, ⟨rfl, rv4⟩⟩)
noncomputable def NL_Y_oneLine_43 (v1 : Int) (v5 : Int) (v6 : Int) (v2 : Int) (v3 : Int) (v4 : Int) (v7 : Int) (m : YS) : Option (Int × Int × Int) :=
  it (fun s : Int × Int × Int × Int => nb_Y_oneLine_43 v1 v5 v6 s.1 s.2.1 s.2.2.1 s.2.2.2 m) (v2, v3, v4, v7)
theorem fL_Y_oneLine_43 {w y : Prop} {g : g_S} {n : NS} {m : YS} (hy : y) {xv1 : Int32} {v1 : Int} (ev1 : xv1 = Int32.ofInt v1) (rv1 : inR v1) {xv5 : Int32} {v5 : Int} (ev5 : xv5 = Int32.ofInt v5) (rv5 : inR v5) {xv6 : Int32} {v6 : Int} (ev6 : xv6 = Int32.ofInt v6) (rv6 : inR v6) {xv2 : Int32} {v2 : Int} (ev2 : xv2 = Int32.ofInt v2) (rv2 : inR v2) {xv3 : Int32} {v3 : Int} (ev3 : xv3 = Int32.ofInt v3) (rv3 : inR v3) {xv4 : Int32} {v4 : Int} (ev4 : xv4 = Int32.ofInt v4) (rv4 : inR v4) {xv7 : Int32} {v7 : Int} (ev7 : xv7 = Int32.ofInt v7) (rv7 : inR v7) (hR : RC w y g n m) : Rf (fun a b => RI a.1 b.1 ∧ RI a.2.1 b.2.1 ∧ RI a.2.2 b.2.2) (L_Y_oneLine_43 1838 xv1 xv5 xv6 xv2 xv3 xv4 xv7 g) (NL_Y_oneLine_43 v1 v5 v6 v2 v3 v4 v7 m) := by
  subst ev1
  subst ev5
  subst ev6
  subst ev2
  subst ev3
  subst ev4
  subst ev7
  unfold L_Y_oneLine_43 NL_Y_oneLine_43
  refine rf_it (I := (fun a b => RI a.1 b.1 ∧ RI a.2.1 b.2.1 ∧ RI a.2.2.1 b.2.2.1 ∧ RI a.2.2.2 b.2.2.2)) (fun s t h => ?_) ⟨⟨rfl, rv2⟩, ⟨rfl, rv3⟩, ⟨rfl, rv4⟩, ⟨rfl, rv7⟩⟩
  exact fb_Y_oneLine_43 hy rfl rv1 rfl rv5 rfl rv6 h.1.1 h.1.2 h.2.1.1 h.2.1.2 h.2.2.1.1 h.2.2.1.2 h.2.2.2.1 h.2.2.2.2 hR
theorem NL_Y_oneLine_43_eq (v1 : Int) (v5 : Int) (v6 : Int) (v2 : Int) (v3 : Int) (v4 : Int) (v7 : Int) (m : YS) : NL_Y_oneLine_43 v1 v5 v6 v2 v3 v4 v7 m = itc (nb_Y_oneLine_43 v1 v5 v6 v2 v3 v4 v7 m) (fun s => NL_Y_oneLine_43 v1 v5 v6 s.1 s.2.1 s.2.2.1 s.2.2.2 m) := it_eq2 (fun s : Int × Int × Int × Int => nb_Y_oneLine_43 v1 v5 v6 s.1 s.2.1 s.2.2.1 s.2.2.2 m) (v2, v3, v4, v7)
noncomputable def nk_Y_oneLine_120 (v1 : Int) (v2 : Int) (v3 : Int) (v4 : Int) (v5 : Int) (m : YS) : Option ((Int × Int × Int × Int) ⊕ (Int)) :=
  (N_Y_after v5 v1 m).bind fun z2 =>
  some (.inl (v2, v3, v4, z2))
theorem fk_Y_oneLine_120 {w y : Prop} {g : g_S} {n : NS} {m : YS} (hy : y) {xv1 : Int32} {v1 : Int} (ev1 : xv1 = Int32.ofInt v1) (rv1 : inR v1) {xv2 : Int32} {v2 : Int} (ev2 : xv2 = Int32.ofInt v2) (rv2 : inR v2) {xv3 : Int32} {v3 : Int} (ev3 : xv3 = Int32.ofInt v3) (rv3 : inR v3) {xv4 : Int32} {v4 : Int} (ev4 : xv4 = Int32.ofInt v4) (rv4 : inR v4) {xv5 : Int32} {v5 : Int} (ev5 : xv5 = Int32.ofInt v5) (rv5 : inR v5) (hR : RC w y g n m) : Rf (RS (fun a b => RI a.1 b.1 ∧ RI a.2.1 b.2.1 ∧ RI a.2.2.1 b.2.2.1 ∧ RI a.2.2.2 b.2.2.2) (fun a b => RI a b)) (k_Y_oneLine_120 1838 xv1 xv2 xv3 xv4 xv5 g) (nk_Y_oneLine_120 v1 v2 v3 v4 v5 m) := by
  subst ev1
  subst ev2
  subst ev3
  subst ev4
  subst ev5
  unfold k_Y_oneLine_120 nk_Y_oneLine_120
  refine v_c (y_gt hR hy) ?_
  refine rf_bind (f_Y_after hy rfl rv5 rfl rv1 hR) (fun a4 z2 h => ?_)
  obtain ⟨rfl, r3⟩ := h
  exact rf_ok (by exact ⟨⟨rfl, rv2⟩, ⟨rfl, rv3⟩, ⟨rfl, rv4⟩, ⟨rfl, r3⟩⟩)
noncomputable def nb_Y_oneLine_10 (v1 : Int) (v2 : Int) (v3 : Int) (v4 : Int) (v5 : Int) (m : YS) : Option ((Int × Int × Int × Int) ⊕ (Int)) :=
  if v5 = (-1) then
    some (.inr v2)
  else
    ix v5 120 <|
    if (m 46 v5) = 17 then
      (N_Y_of v1 8 m).bind fun z7 =>
      (NL_Y_oneLine_43 v1 v5 z7 v2 v3 v4 0 m).bind <| u3 fun z10 z11 z12 =>
      nk_Y_oneLine_120 v1 z10 z11 z12 v5 m
    else
      nk_Y_oneLine_120 v1 v2 v3 v4 v5 m
theorem fb_Y_oneLine_10 {w y : Prop} {g : g_S} {n : NS} {m : YS} (hy : y) {xv1 : Int32} {v1 : Int} (ev1 : xv1 = Int32.ofInt v1) (rv1 : inR v1) {xv2 : Int32} {v2 : Int} (ev2 : xv2 = Int32.ofInt v2) (rv2 : inR v2) {xv3 : Int32} {v3 : Int} (ev3 : xv3 = Int32.ofInt v3) (rv3 : inR v3) {xv4 : Int32} {v4 : Int} (ev4 : xv4 = Int32.ofInt v4) (rv4 : inR v4) {xv5 : Int32} {v5 : Int} (ev5 : xv5 = Int32.ofInt v5) (rv5 : inR v5) (hR : RC w y g n m) : Rf (RS (fun a b => RI a.1 b.1 ∧ RI a.2.1 b.2.1 ∧ RI a.2.2.1 b.2.2.1 ∧ RI a.2.2.2 b.2.2.2) (fun a b => RI a b)) (b_Y_oneLine_10 1838 xv1 xv2 xv3 xv4 xv5 g) (nb_Y_oneLine_10 v1 v2 v3 v4 v5 m) := by
  subst ev1
  subst ev2
  subst ev3
  subst ev4
  subst ev5
  unfold b_Y_oneLine_10 nb_Y_oneLine_10
  refine rf_eq rfl (e_m 1) rv5 (show inR (-1) by decide) ?_ ?_
  · exact rf_ok (by exact ⟨rfl, rv2⟩)
  · refine y_Q hR hy ya46.1 (by decide) ?_
    refine y_aI hR hy ya46 yl46 rfl rv5 (fun h3 h4 => ?_)
    refine rf_eq rfl (e_n 17) h4 (show inR 17 by decide) ?_ ?_
    · refine v_c (y_gt hR hy) ?_
      refine rf_bind (f_Y_of hy rfl rv1 (e_n 8) (show inR 8 by decide) hR) (fun a9 z7 h => ?_)
      obtain ⟨rfl, r8⟩ := h
      refine rf_bind (fL_Y_oneLine_43 hy rfl rv1 rfl rv5 rfl r8 rfl rv2 rfl rv3 rfl rv4 (e_n 0) (show inR 0 by decide) hR) (fun a b h => ?_)
      obtain ⟨a13, a14, a15⟩ := a
      obtain ⟨z10, z11, z12⟩ := b
      refine rf_u3 ?_
      obtain ⟨rfl, r16⟩ := (show RI a13 z10 from h.1)
      obtain ⟨rfl, r17⟩ := (show RI a14 z11 from h.2.1)
      obtain ⟨rfl, r18⟩ := (show RI a15 z12 from h.2.2)
      exact fk_Y_oneLine_120 hy rfl rv1 rfl r16 rfl r17 rfl r18 rfl rv5 hR
    · exact fk_Y_oneLine_120 hy rfl rv1 rfl rv2 rfl rv3 rfl rv4 rfl rv5 hR
noncomputable def NL_Y_oneLine_10 (v1 : Int) (v2 : Int) (v3 : Int) (v4 : Int) (v5 : Int) (m : YS) : Option (Int) :=
  it (fun s : Int × Int × Int × Int => nb_Y_oneLine_10 v1 s.1 s.2.1 s.2.2.1 s.2.2.2 m) (v2, v3, v4, v5)
theorem fL_Y_oneLine_10 {w y : Prop} {g : g_S} {n : NS} {m : YS} (hy : y) {xv1 : Int32} {v1 : Int} (ev1 : xv1 = Int32.ofInt v1) (rv1 : inR v1) {xv2 : Int32} {v2 : Int} (ev2 : xv2 = Int32.ofInt v2) (rv2 : inR v2) {xv3 : Int32} {v3 : Int} (ev3 : xv3 = Int32.ofInt v3) (rv3 : inR v3) {xv4 : Int32} {v4 : Int} (ev4 : xv4 = Int32.ofInt v4) (rv4 : inR v4) {xv5 : Int32} {v5 : Int} (ev5 : xv5 = Int32.ofInt v5) (rv5 : inR v5) (hR : RC w y g n m) : Rf (fun a b => RI a b) (L_Y_oneLine_10 1838 xv1 xv2 xv3 xv4 xv5 g) (NL_Y_oneLine_10 v1 v2 v3 v4 v5 m) := by
  subst ev1
  subst ev2
  subst ev3
  subst ev4
  subst ev5
  unfold L_Y_oneLine_10 NL_Y_oneLine_10
  refine rf_it (I := (fun a b => RI a.1 b.1 ∧ RI a.2.1 b.2.1 ∧ RI a.2.2.1 b.2.2.1 ∧ RI a.2.2.2 b.2.2.2)) (fun s t h => ?_) ⟨⟨rfl, rv2⟩, ⟨rfl, rv3⟩, ⟨rfl, rv4⟩, ⟨rfl, rv5⟩⟩
  exact fb_Y_oneLine_10 hy rfl rv1 h.1.1 h.1.2 h.2.1.1 h.2.1.2 h.2.2.1.1 h.2.2.1.2 h.2.2.2.1 h.2.2.2.2 hR
theorem NL_Y_oneLine_10_eq (v1 : Int) (v2 : Int) (v3 : Int) (v4 : Int) (v5 : Int) (m : YS) : NL_Y_oneLine_10 v1 v2 v3 v4 v5 m = itc (nb_Y_oneLine_10 v1 v2 v3 v4 v5 m) (fun s => NL_Y_oneLine_10 v1 s.1 s.2.1 s.2.2.1 s.2.2.2 m) := it_eq2 (fun s : Int × Int × Int × Int => nb_Y_oneLine_10 v1 s.1 s.2.1 s.2.2.1 s.2.2.2 m) (v2, v3, v4, v5)
noncomputable def N_Y_oneLine (v1 : Int) (m : YS) : Option (Int) :=
  (NL_Y_oneLine_10 v1 0 0 0 v1 m).bind <| fun z1 =>
  some z1
theorem f_Y_oneLine {w y : Prop} {g : g_S} {n : NS} {m : YS} (hy : y) {xv1 : Int32} {v1 : Int} (ev1 : xv1 = Int32.ofInt v1) (rv1 : inR v1) (hR : RC w y g n m) : Rf (fun a b => RI a b) (M_Y_oneLine 1838 xv1 g) (N_Y_oneLine v1 m) := by
  subst ev1
  unfold M_Y_oneLine N_Y_oneLine
  refine rf_bind (fL_Y_oneLine_10 hy rfl rv1 (e_n 0) (show inR 0 by decide) (e_n 0) (show inR 0 by decide) (e_n 0) (show inR 0 by decide) rfl rv1 hR) (fun a2 z1 h => ?_)
  obtain ⟨rfl, r3⟩ := (show RI a2 z1 from h)
  exact rf_ok (by exact ⟨rfl, r3⟩)
noncomputable def nk_Y_widen_95 (v1 : Int) (v3 : Int) (v4 : Int) (m : YS) : Option (YS) :=
  ix v1 120 <|
  st (yw m 112 v1 (max v4 v3)) fun m4 =>
  some m4
theorem fk_Y_widen_95 {w y : Prop} {g : g_S} {n : NS} {m : YS} (hy : y) {xv1 : Int32} {v1 : Int} (ev1 : xv1 = Int32.ofInt v1) (rv1 : inR v1) {xv3 : Int32} {v3 : Int} (ev3 : xv3 = Int32.ofInt v3) (rv3 : inR v3) {xv4 : Int32} {v4 : Int} (ev4 : xv4 = Int32.ofInt v4) (rv4 : inR v4) (hR : RC w y g n m) : Rf (fun a b => RC w y a n b) (k_Y_widen_95 1838 xv1 xv3 xv4 g) (nk_Y_widen_95 v1 v3 v4 m) := by
  subst ev1
  subst ev3
  subst ev4
  unfold k_Y_widen_95 nk_Y_widen_95
  refine y_Q hR hy ya112.1 (by decide) ?_
  refine y_sI hR hy ya112 yl112 rfl rv1 (e_mx rfl rfl rv4 rv3) (max_r rv4 rv3) (fun g6 m4 hR5 => ?_)
  exact rf_ok (by exact hR5)
noncomputable def N_Y_widen (v1 : Int) (m : YS) : Option (YS) :=
  ix v1 120 <|
  (N_Y_inner (m 109 v1) m).bind fun z5 =>
  (N_Y_edges v1 m).bind fun z9 =>
  ck (2 * z9) <|
  (N_Y_told v1 z5 m).bind fun z14 =>
  if z14 = (-1) then
    (N_Y_of v1 3 m).bind fun z19 =>
    ck (2 * z19) <|
    ck (z5 - (2 * z19)) <|
    ix v1 120 <|
    if (m 108 v1) = 0 then
      ix v1 120 <|
      ix (m 109 v1) 120 <|
      if (m 107 (m 109 v1)) = 2 then
        (N_Y_oneLine v1 m).bind fun z36 =>
        ck (z36 + (2 * z9)) <|
        nk_Y_widen_95 v1 (2 * z9) (z36 + (2 * z9)) m
      else
        nk_Y_widen_95 v1 (2 * z9) (z5 - (2 * z19)) m
    else
      (N_Y_oneLine v1 m).bind fun z41 =>
      ck (z41 + (2 * z9)) <|
      nk_Y_widen_95 v1 (2 * z9) (min (z5 - (2 * z19)) (z41 + (2 * z9))) m
  else
    nk_Y_widen_95 v1 (2 * z9) z14 m
theorem f_Y_widen {w y : Prop} {g : g_S} {n : NS} {m : YS} (hy : y) {xv1 : Int32} {v1 : Int} (ev1 : xv1 = Int32.ofInt v1) (rv1 : inR v1) (hR : RC w y g n m) : Rf (fun a b => RC w y a n b) (M_Y_widen 1838 xv1 g) (N_Y_widen v1 m) := by
  subst ev1
  unfold M_Y_widen N_Y_widen
  refine y_Q hR hy ya109.1 (by decide) ?_
  refine y_aI hR hy ya109 yl109 rfl rv1 (fun h2 h3 => ?_)
  refine v_c (y_gt hR hy) ?_
  refine rf_bind (f_Y_inner hy rfl h3 hR) (fun a7 z5 h => ?_)
  obtain ⟨rfl, r6⟩ := h
  refine v_c (y_gt hR hy) ?_
  refine rf_bind (f_Y_edges hy rfl rv1 hR) (fun a11 z9 h => ?_)
  obtain ⟨rfl, r10⟩ := h
  refine rf_ck (fun h12 => ?_)
  refine v_c (y_gt hR hy) ?_
  refine rf_bind (f_Y_told hy rfl rv1 rfl r6 hR) (fun a16 z14 h => ?_)
  obtain ⟨rfl, r15⟩ := h
  refine rf_eq rfl (e_m 1) r15 (show inR (-1) by decide) ?_ ?_
  · refine v_c (y_gt hR hy) ?_
    refine rf_bind (f_Y_of hy rfl rv1 (e_n 3) (show inR 3 by decide) hR) (fun a21 z19 h => ?_)
    obtain ⟨rfl, r20⟩ := h
    refine rf_ck (fun h22 => ?_)
    refine rf_ck (fun h23 => ?_)
    refine y_Q hR hy ya108.1 (by decide) ?_
    refine y_aZ hR hy ya108 yl108 rfl rv1 (fun h25 h26 => ?_)
    refine rf_eq rfl (e_n 0) (inZ.r h26) (show inR 0 by decide) ?_ ?_
    · refine y_Q hR hy ya107.1 (by decide) ?_
      refine y_Q hR hy ya109.1 (by decide) ?_
      refine y_aI hR hy ya109 yl109 rfl rv1 (fun h30 h31 => ?_)
      refine y_aI hR hy ya107 yl107 rfl h31 (fun h32 h33 => ?_)
      refine rf_eq rfl (e_n 2) h33 (show inR 2 by decide) ?_ ?_
      · refine v_c (y_gt hR hy) ?_
        refine rf_bind (f_Y_oneLine hy rfl rv1 hR) (fun a38 z36 h => ?_)
        obtain ⟨rfl, r37⟩ := h
        refine rf_ck (fun h39 => ?_)
        exact fk_Y_widen_95 hy rfl rv1 (e_mul (e_n 2) rfl) h12 (e_add rfl (e_mul (e_n 2) rfl)) h39 hR
      · exact fk_Y_widen_95 hy rfl rv1 (e_mul (e_n 2) rfl) h12 (e_sub rfl (e_mul (e_n 2) rfl)) h23 hR
    · refine v_c (y_gt hR hy) ?_
      refine rf_bind (f_Y_oneLine hy rfl rv1 hR) (fun a43 z41 h => ?_)
      obtain ⟨rfl, r42⟩ := h
      refine rf_ck (fun h44 => ?_)
      exact fk_Y_widen_95 hy rfl rv1 (e_mul (e_n 2) rfl) h12 (e_mn (e_sub rfl (e_mul (e_n 2) rfl)) (e_add rfl (e_mul (e_n 2) rfl)) h23 h44) (min_r h23 h44) hR
  · exact fk_Y_widen_95 hy rfl rv1 (e_mul (e_n 2) rfl) h12 rfl r15 hR
noncomputable def nk_Y_measure_118 (v1 : Int) (v2 : Int) (w0 : Int) (w1 : Int) (m : YS) : Option (YS) :=
  ix w1 120 <|
  st (yw m 112 w1 w0) fun m2 =>
  ck (7 * v2) <|
  ck ((7 * v2) + 4) <|
  ix v1 120 <|
  st (yw m2 113 v1 ((7 * v2) + 4)) fun m9 =>
  some m9
theorem fk_Y_measure_118 {w y : Prop} {g : g_S} {n : NS} {m : YS} (hy : y) {xv1 : Int32} {v1 : Int} (ev1 : xv1 = Int32.ofInt v1) (rv1 : inR v1) {xv2 : Int32} {v2 : Int} (ev2 : xv2 = Int32.ofInt v2) (rv2 : inR v2) {xw0 : Int32} {w0 : Int} (ew0 : xw0 = Int32.ofInt w0) (rw0 : inR w0) {xw1 : Int32} {w1 : Int} (ew1 : xw1 = Int32.ofInt w1) (rw1 : inR w1) (hR : RC w y g n m) : Rf (fun a b => RC w y a n b) (k_Y_measure_118 1838 xv1 xv2 xw0 xw1 (yAd 112) g) (nk_Y_measure_118 v1 v2 w0 w1 m) := by
  subst ev1
  subst ev2
  subst ew0
  subst ew1
  unfold k_Y_measure_118 nk_Y_measure_118
  refine y_sI hR hy ya112 yl112 rfl rw1 rfl rw0 (fun g4 m2 hR3 => ?_)
  refine y_Q hR3 hy ya113.1 (by decide) ?_
  refine rf_ck (fun h6 => ?_)
  refine rf_ck (fun h7 => ?_)
  refine y_sI hR3 hy ya113 yl113 rfl rv1 (e_add (e_mul (e_n 7) rfl) (e_n 4)) h7 (fun g11 m9 hR10 => ?_)
  exact rf_ok (by exact hR10)
noncomputable def nk_Y_measure_85 (w0 : Int) (w1 : Int) (m : YS) : Option (YS) :=
  ix w1 120 <|
  st (yw m 113 w1 w0) fun m2 =>
  some m2
theorem fk_Y_measure_85 {w y : Prop} {g : g_S} {n : NS} {m : YS} (hy : y) {xw0 : Int32} {w0 : Int} (ew0 : xw0 = Int32.ofInt w0) (rw0 : inR w0) {xw1 : Int32} {w1 : Int} (ew1 : xw1 = Int32.ofInt w1) (rw1 : inR w1) (hR : RC w y g n m) : Rf (fun a b => RC w y a n b) (k_Y_measure_85 xw0 xw1 (yAd 113) g) (nk_Y_measure_85 w0 w1 m) := by
  subst ew0
  subst ew1
  unfold k_Y_measure_85 nk_Y_measure_85
  refine y_sI hR hy ya113 yl113 rfl rw1 rfl rw0 (fun g4 m2 hR3 => ?_)
  exact rf_ok (by exact hR3)
noncomputable def nk_Y_measure_56 (v1 : Int) (w0 : Int) (w1 : Int) (m : YS) : Option (YS) :=
  ix w1 120 <|
  st (yw m 112 w1 w0) fun m2 =>
  (N_Y_of v1 7 m2).bind fun z7 =>
  if z7 = (-1) then
    nk_Y_measure_85 8 v1 m2
  else
    (N_Y_of v1 7 m2).bind fun z12 =>
    nk_Y_measure_85 z12 v1 m2
theorem fk_Y_measure_56 {w y : Prop} {g : g_S} {n : NS} {m : YS} (hy : y) {xv1 : Int32} {v1 : Int} (ev1 : xv1 = Int32.ofInt v1) (rv1 : inR v1) {xw0 : Int32} {w0 : Int} (ew0 : xw0 = Int32.ofInt w0) (rw0 : inR w0) {xw1 : Int32} {w1 : Int} (ew1 : xw1 = Int32.ofInt w1) (rw1 : inR w1) (hR : RC w y g n m) : Rf (fun a b => RC w y a n b) (k_Y_measure_56 1838 xv1 xw0 xw1 (yAd 112) g) (nk_Y_measure_56 v1 w0 w1 m) := by
  subst ev1
  subst ew0
  subst ew1
  unfold k_Y_measure_56 nk_Y_measure_56
  refine y_sI hR hy ya112 yl112 rfl rw1 rfl rw0 (fun g4 m2 hR3 => ?_)
  refine y_Q hR3 hy ya113.1 (by decide) ?_
  refine v_c (y_gt hR3 hy) ?_
  refine rf_bind (f_Y_of hy rfl rv1 (e_n 7) (show inR 7 by decide) hR3) (fun a9 z7 h => ?_)
  obtain ⟨rfl, r8⟩ := h
  refine rf_eq rfl (e_m 1) r8 (show inR (-1) by decide) ?_ ?_
  · exact fk_Y_measure_85 hy (e_n 8) (show inR 8 by decide) rfl rv1 hR3
  · refine v_c (y_gt hR3 hy) ?_
    refine rf_bind (f_Y_of hy rfl rv1 (e_n 7) (show inR 7 by decide) hR3) (fun a14 z12 h => ?_)
    obtain ⟨rfl, r13⟩ := h
    exact fk_Y_measure_85 hy rfl r13 rfl rv1 hR3
noncomputable def N_Y_measure (v1 : Int) (m : YS) : Option (YS) :=
  (N_Y_of v1 8 m).bind fun z2 =>
  ix v1 120 <|
  (N_Y_inner (m 109 v1) m).bind fun z9 =>
  (N_Y_told v1 z9 m).bind fun z13 =>
  ix v1 120 <|
  if (m 46 v1) = 12 then
    if z13 = (-1) then
      nk_Y_measure_56 v1 8 v1 m
    else
      nk_Y_measure_56 v1 z13 v1 m
  else
    ix v1 120 <|
    if (m 46 v1) = 13 then
      if z13 = (-1) then
        nk_Y_measure_118 v1 z2 24 v1 m
      else
        nk_Y_measure_118 v1 z2 z13 v1 m
    else
      (N_Y_oneLine v1 m).bind fun z30 =>
      (N_Y_edges v1 m).bind fun z34 =>
      ck (2 * z34) <|
      ck (z30 + (2 * z34)) <|
      ix v1 120 <|
      st (yw m 112 v1 (z30 + (2 * z34))) fun m40 =>
      ck (7 * z2) <|
      (N_Y_edges v1 m40).bind fun z46 =>
      ck (2 * z46) <|
      ck ((7 * z2) + (2 * z46)) <|
      ix v1 120 <|
      st (yw m40 113 v1 ((7 * z2) + (2 * z46))) fun m52 =>
      some m52
theorem f_Y_measure {w y : Prop} {g : g_S} {n : NS} {m : YS} (hy : y) {xv1 : Int32} {v1 : Int} (ev1 : xv1 = Int32.ofInt v1) (rv1 : inR v1) (hR : RC w y g n m) : Rf (fun a b => RC w y a n b) (M_Y_measure 1838 xv1 g) (N_Y_measure v1 m) := by
  subst ev1
  unfold M_Y_measure N_Y_measure
  refine v_c (y_gt hR hy) ?_
  refine rf_bind (f_Y_of hy rfl rv1 (e_n 8) (show inR 8 by decide) hR) (fun a4 z2 h => ?_)
  obtain ⟨rfl, r3⟩ := h
  refine y_Q hR hy ya109.1 (by decide) ?_
  refine y_aI hR hy ya109 yl109 rfl rv1 (fun h6 h7 => ?_)
  refine v_c (y_gt hR hy) ?_
  refine rf_bind (f_Y_inner hy rfl h7 hR) (fun a11 z9 h => ?_)
  obtain ⟨rfl, r10⟩ := h
  refine v_c (y_gt hR hy) ?_
  refine rf_bind (f_Y_told hy rfl rv1 rfl r10 hR) (fun a15 z13 h => ?_)
  obtain ⟨rfl, r14⟩ := h
  refine y_Q hR hy ya46.1 (by decide) ?_
  refine y_aI hR hy ya46 yl46 rfl rv1 (fun h17 h18 => ?_)
  refine rf_eq rfl (e_n 12) h18 (show inR 12 by decide) ?_ ?_
  · refine y_Q hR hy ya112.1 (by decide) ?_
    refine rf_eq rfl (e_m 1) r14 (show inR (-1) by decide) ?_ ?_
    · exact fk_Y_measure_56 hy rfl rv1 (e_n 8) (show inR 8 by decide) rfl rv1 hR
    · exact fk_Y_measure_56 hy rfl rv1 rfl r14 rfl rv1 hR
  · refine y_Q hR hy ya46.1 (by decide) ?_
    refine y_aI hR hy ya46 yl46 rfl rv1 (fun h23 h24 => ?_)
    refine rf_eq rfl (e_n 13) h24 (show inR 13 by decide) ?_ ?_
    · refine y_Q hR hy ya112.1 (by decide) ?_
      refine rf_eq rfl (e_m 1) r14 (show inR (-1) by decide) ?_ ?_
      · exact fk_Y_measure_118 hy rfl rv1 rfl r3 (e_n 24) (show inR 24 by decide) rfl rv1 hR
      · exact fk_Y_measure_118 hy rfl rv1 rfl r3 rfl r14 rfl rv1 hR
    · refine y_Q hR hy ya112.1 (by decide) ?_
      refine v_c (y_gt hR hy) ?_
      refine rf_bind (f_Y_oneLine hy rfl rv1 hR) (fun a32 z30 h => ?_)
      obtain ⟨rfl, r31⟩ := h
      refine v_c (y_gt hR hy) ?_
      refine rf_bind (f_Y_edges hy rfl rv1 hR) (fun a36 z34 h => ?_)
      obtain ⟨rfl, r35⟩ := h
      refine rf_ck (fun h37 => ?_)
      refine rf_ck (fun h38 => ?_)
      refine y_sI hR hy ya112 yl112 rfl rv1 (e_add rfl (e_mul (e_n 2) rfl)) h38 (fun g42 m40 hR41 => ?_)
      refine y_Q hR41 hy ya113.1 (by decide) ?_
      refine rf_ck (fun h44 => ?_)
      refine v_c (y_gt hR41 hy) ?_
      refine rf_bind (f_Y_edges hy rfl rv1 hR41) (fun a48 z46 h => ?_)
      obtain ⟨rfl, r47⟩ := h
      refine rf_ck (fun h49 => ?_)
      refine rf_ck (fun h50 => ?_)
      refine y_sI hR41 hy ya113 yl113 rfl rv1 (e_add (e_mul (e_n 7) rfl) (e_mul (e_n 2) rfl)) h50 (fun g54 m52 hR53 => ?_)
      exact rf_ok (by exact hR53)
noncomputable def nb_Y_split_72 (v1 : Int) (v2 : Int) (v3 : Int) (v4 : Int) (m : YS) : Option ((Int × Int) ⊕ (Int × Int)) :=
  ix v1 120 <|
  if v3 < (m 62 v1) then
    ck (400 * v1) <|
    ck ((400 * v1) + v3) <|
    ix ((400 * v1) + v3) 48000 <|
    (N_Y_isBlank (m 61 ((400 * v1) + v3)) m).bind fun z11 =>
    if z11 = 0 then
      ck (400 * v1) <|
      ck ((400 * v1) + v3) <|
      ix ((400 * v1) + v3) 48000 <|
      (N_Y_glyph (m 61 ((400 * v1) + v3)) m).bind fun z21 =>
      ck (z21 * v2) <|
      ck (v4 + (z21 * v2)) <|
      ck (v3 + 1) <|
      some (.inl (v3 + 1, v4 + (z21 * v2)))
    else
      some (.inr (v3, v4))
  else
    some (.inr (v3, v4))
theorem fb_Y_split_72 {w y : Prop} {g : g_S} {n : NS} {m : YS} (hy : y) {xv1 : Int32} {v1 : Int} (ev1 : xv1 = Int32.ofInt v1) (rv1 : inR v1) {xv2 : Int32} {v2 : Int} (ev2 : xv2 = Int32.ofInt v2) (rv2 : inR v2) {xv3 : Int32} {v3 : Int} (ev3 : xv3 = Int32.ofInt v3) (rv3 : inR v3) {xv4 : Int32} {v4 : Int} (ev4 : xv4 = Int32.ofInt v4) (rv4 : inR v4) (hR : RC w y g n m) : Rf (RS (fun a b => RI a.1 b.1 ∧ RI a.2 b.2) (fun a b => RI a.1 b.1 ∧ RI a.2 b.2)) (b_Y_split_72 1838 xv1 xv2 xv3 xv4 g) (nb_Y_split_72 v1 v2 v3 v4 m) := by
  subst ev1
  subst ev2
  subst ev3
  subst ev4
  unfold b_Y_split_72 nb_Y_split_72
  refine y_Q hR hy ya62.1 (by decide) ?_
  refine y_aI hR hy ya62 yl62 rfl rv1 (fun h2 h3 => ?_)
  refine rf_lt rfl rfl rv3 h3 ?_ ?_
  · refine y_Q hR hy ya61.1 (by decide) ?_
    refine rf_ck (fun h6 => ?_)
    refine rf_ck (fun h7 => ?_)
    refine y_aB hR hy ya61 yl61 (e_add (e_mul (e_n 400) rfl) rfl) h7 (fun h8 h9 => ?_)
    refine rf_bind (f_Y_isBlank hy rfl (inB.r h9) hR) (fun a13 z11 h => ?_)
    obtain ⟨rfl, r12⟩ := h
    refine rf_eq rfl (e_n 0) (inZ.r r12) (show inR 0 by decide) ?_ ?_
    · refine y_Q hR hy ya61.1 (by decide) ?_
      refine rf_ck (fun h16 => ?_)
      refine rf_ck (fun h17 => ?_)
      refine y_aB hR hy ya61 yl61 (e_add (e_mul (e_n 400) rfl) rfl) h17 (fun h18 h19 => ?_)
      refine rf_bind (f_Y_glyph hy rfl (inB.r h19) hR) (fun a23 z21 h => ?_)
      obtain ⟨rfl, r22⟩ := h
      refine rf_ck (fun h24 => ?_)
      refine rf_ck (fun h25 => ?_)
      refine rf_ck (fun h26 => ?_)
      exact rf_ok (by exact ⟨⟨(e_add rfl (e_n 1)), h26⟩, ⟨(e_add rfl (e_mul rfl rfl)), h25⟩⟩)
    · exact rf_ok (by exact ⟨⟨rfl, rv3⟩, ⟨rfl, rv4⟩⟩)
  · exact rf_ok (by exact ⟨⟨rfl, rv3⟩, ⟨rfl, rv4⟩⟩)
noncomputable def NL_Y_split_72 (v1 : Int) (v2 : Int) (v3 : Int) (v4 : Int) (m : YS) : Option (Int × Int) :=
  it (fun s : Int × Int => nb_Y_split_72 v1 v2 s.1 s.2 m) (v3, v4)
theorem fL_Y_split_72 {w y : Prop} {g : g_S} {n : NS} {m : YS} (hy : y) {xv1 : Int32} {v1 : Int} (ev1 : xv1 = Int32.ofInt v1) (rv1 : inR v1) {xv2 : Int32} {v2 : Int} (ev2 : xv2 = Int32.ofInt v2) (rv2 : inR v2) {xv3 : Int32} {v3 : Int} (ev3 : xv3 = Int32.ofInt v3) (rv3 : inR v3) {xv4 : Int32} {v4 : Int} (ev4 : xv4 = Int32.ofInt v4) (rv4 : inR v4) (hR : RC w y g n m) : Rf (fun a b => RI a.1 b.1 ∧ RI a.2 b.2) (L_Y_split_72 1838 xv1 xv2 xv3 xv4 g) (NL_Y_split_72 v1 v2 v3 v4 m) := by
  subst ev1
  subst ev2
  subst ev3
  subst ev4
  unfold L_Y_split_72 NL_Y_split_72
  refine rf_it (I := (fun a b => RI a.1 b.1 ∧ RI a.2 b.2)) (fun s t h => ?_) ⟨⟨rfl, rv3⟩, ⟨rfl, rv4⟩⟩
  exact fb_Y_split_72 hy rfl rv1 rfl rv2 h.1.1 h.1.2 h.2.1 h.2.2 hR
theorem NL_Y_split_72_eq (v1 : Int) (v2 : Int) (v3 : Int) (v4 : Int) (m : YS) : NL_Y_split_72 v1 v2 v3 v4 m = itc (nb_Y_split_72 v1 v2 v3 v4 m) (fun s => NL_Y_split_72 v1 v2 s.1 s.2 m) := it_eq2 (fun s : Int × Int => nb_Y_split_72 v1 v2 s.1 s.2 m) (v3, v4)
noncomputable def nk_Y_split_128 (v1 : Int) (v2 : Int) (v3 : Int) (v4 : Int) (m : YS) : Option ((Int × YS) ⊕ (YS)) :=
  ix (m 117 0) 24000 <|
  ck (v3 - (m 119 (m 117 0))) <|
  ix (m 117 0) 24000 <|
  st (yw m 120 (m 117 0) (v3 - (m 119 (m 117 0)))) fun m9 =>
  ix (m9 117 0) 24000 <|
  st (yw m9 123 (m9 117 0) v4) fun m15 =>
  ck ((m15 117 0) + 1) <|
  st (yw m15 117 0 ((m15 117 0) + 1)) fun m21 =>
  some (.inl (v3, m21))
theorem fk_Y_split_128 {w y : Prop} {g : g_S} {n : NS} {m : YS} (hy : y) {xv1 : Int32} {v1 : Int} (ev1 : xv1 = Int32.ofInt v1) (rv1 : inR v1) {xv2 : Int32} {v2 : Int} (ev2 : xv2 = Int32.ofInt v2) (rv2 : inR v2) {xv3 : Int32} {v3 : Int} (ev3 : xv3 = Int32.ofInt v3) (rv3 : inR v3) {xv4 : Int32} {v4 : Int} (ev4 : xv4 = Int32.ofInt v4) (rv4 : inR v4) (hR : RC w y g n m) : Rf (RS (fun a b => RI a.1 b.1 ∧ RC w y a.2 n b.2) (fun a b => RC w y a n b)) (k_Y_split_128 1838 xv1 xv2 xv3 xv4 g) (nk_Y_split_128 v1 v2 v3 v4 m) := by
  subst ev1
  subst ev2
  subst ev3
  subst ev4
  unfold k_Y_split_128 nk_Y_split_128
  refine y_Q hR hy ya120.1 (by decide) ?_
  refine y_I hR hy yk117 yt117 (fun h2 => ?_)
  refine y_Q hR hy ya119.1 (by decide) ?_
  refine y_I hR hy yk117 yt117 (fun h4 => ?_)
  refine y_aI hR hy ya119 yl119 rfl h4 (fun h5 h6 => ?_)
  refine rf_ck (fun h7 => ?_)
  refine y_sI hR hy ya120 yl120 rfl h2 (e_sub rfl rfl) h7 (fun g11 m9 hR10 => ?_)
  refine y_Q hR10 hy ya123.1 (by decide) ?_
  refine y_I hR10 hy yk117 yt117 (fun h13 => ?_)
  refine y_sI hR10 hy ya123 yl123 rfl h13 rfl rv4 (fun g17 m15 hR16 => ?_)
  refine y_I hR16 hy yk117 yt117 (fun h18 => ?_)
  refine rf_ck (fun h19 => ?_)
  refine y_pI hR16 hy yk117 ⟨yt117, yz117⟩ (e_add rfl (e_n 1)) h19 (fun g23 m21 hR22 => ?_)
  exact rf_ok (by exact ⟨⟨rfl, rv3⟩, hR22⟩)
noncomputable def nb_Y_split_15 (v1 : Int) (v2 : Int) (v3 : Int) (m : YS) : Option ((Int × YS) ⊕ (YS)) :=
  ix v1 120 <|
  if v3 < (m 62 v1) then
    ck (400 * v1) <|
    ck ((400 * v1) + v3) <|
    ix ((400 * v1) + v3) 48000 <|
    (N_Y_isBlank (m 61 ((400 * v1) + v3)) m).bind fun z11 =>
    if z11 = 0 then
      ix (m 117 0) 24000 <|
      st (yw m 118 (m 117 0) v1) fun m18 =>
      ix (m18 117 0) 24000 <|
      st (yw m18 119 (m18 117 0) v3) fun m24 =>
      (NL_Y_split_72 v1 v2 v3 0 m24).bind <| u2 fun z27 z28 =>
      nk_Y_split_128 v1 v2 z27 z28 m24
    else
      ck (v3 + 1) <|
      some (.inl (v3 + 1, m))
  else
    some (.inr m)
theorem fb_Y_split_15 {w y : Prop} {g : g_S} {n : NS} {m : YS} (hy : y) {xv1 : Int32} {v1 : Int} (ev1 : xv1 = Int32.ofInt v1) (rv1 : inR v1) {xv2 : Int32} {v2 : Int} (ev2 : xv2 = Int32.ofInt v2) (rv2 : inR v2) {xv3 : Int32} {v3 : Int} (ev3 : xv3 = Int32.ofInt v3) (rv3 : inR v3) (hR : RC w y g n m) : Rf (RS (fun a b => RI a.1 b.1 ∧ RC w y a.2 n b.2) (fun a b => RC w y a n b)) (b_Y_split_15 1838 xv1 xv2 xv3 g) (nb_Y_split_15 v1 v2 v3 m) := by
  subst ev1
  subst ev2
  subst ev3
  unfold b_Y_split_15 nb_Y_split_15
  refine y_Q hR hy ya62.1 (by decide) ?_
  refine y_aI hR hy ya62 yl62 rfl rv1 (fun h2 h3 => ?_)
  refine rf_lt rfl rfl rv3 h3 ?_ ?_
  · refine y_Q hR hy ya61.1 (by decide) ?_
    refine rf_ck (fun h6 => ?_)
    refine rf_ck (fun h7 => ?_)
    refine y_aB hR hy ya61 yl61 (e_add (e_mul (e_n 400) rfl) rfl) h7 (fun h8 h9 => ?_)
    refine rf_bind (f_Y_isBlank hy rfl (inB.r h9) hR) (fun a13 z11 h => ?_)
    obtain ⟨rfl, r12⟩ := h
    refine rf_eq rfl (e_n 0) (inZ.r r12) (show inR 0 by decide) ?_ ?_
    · refine y_Q hR hy ya118.1 (by decide) ?_
      refine y_I hR hy yk117 yt117 (fun h16 => ?_)
      refine y_sI hR hy ya118 yl118 rfl h16 rfl rv1 (fun g20 m18 hR19 => ?_)
      refine y_Q hR19 hy ya119.1 (by decide) ?_
      refine y_I hR19 hy yk117 yt117 (fun h22 => ?_)
      refine y_sI hR19 hy ya119 yl119 rfl h22 rfl rv3 (fun g26 m24 hR25 => ?_)
      refine rf_bind (fL_Y_split_72 hy rfl rv1 rfl rv2 rfl rv3 (e_n 0) (show inR 0 by decide) hR25) (fun a b h => ?_)
      obtain ⟨a29, a30⟩ := a
      obtain ⟨z27, z28⟩ := b
      refine rf_u2 ?_
      obtain ⟨rfl, r31⟩ := (show RI a29 z27 from h.1)
      obtain ⟨rfl, r32⟩ := (show RI a30 z28 from h.2)
      exact fk_Y_split_128 hy rfl rv1 rfl rv2 rfl r31 rfl r32 hR25
    · refine rf_ck (fun h33 => ?_)
      exact rf_ok (by exact ⟨⟨(e_add rfl (e_n 1)), h33⟩, hR⟩)
  · exact rf_ok (by exact hR)
noncomputable def NL_Y_split_15 (v1 : Int) (v2 : Int) (v3 : Int) (m : YS) : Option (YS) :=
  it (fun s : Int × YS => nb_Y_split_15 v1 v2 s.1 s.2) (v3, m)
theorem fL_Y_split_15 {w y : Prop} {g : g_S} {n : NS} {m : YS} (hy : y) {xv1 : Int32} {v1 : Int} (ev1 : xv1 = Int32.ofInt v1) (rv1 : inR v1) {xv2 : Int32} {v2 : Int} (ev2 : xv2 = Int32.ofInt v2) (rv2 : inR v2) {xv3 : Int32} {v3 : Int} (ev3 : xv3 = Int32.ofInt v3) (rv3 : inR v3) (hR : RC w y g n m) : Rf (fun a b => RC w y a n b) (L_Y_split_15 1838 xv1 xv2 xv3 g) (NL_Y_split_15 v1 v2 v3 m) := by
  subst ev1
  subst ev2
  subst ev3
  unfold L_Y_split_15 NL_Y_split_15
  refine rf_it (I := (fun a b => RI a.1 b.1 ∧ RC w y a.2 n b.2)) (fun s t h => ?_) ⟨⟨rfl, rv3⟩, hR⟩
  exact fb_Y_split_15 hy rfl rv1 rfl rv2 h.1.1 h.1.2 h.2
theorem NL_Y_split_15_eq (v1 : Int) (v2 : Int) (v3 : Int) (m : YS) : NL_Y_split_15 v1 v2 v3 m = itc (nb_Y_split_15 v1 v2 v3 m) (fun s => NL_Y_split_15 v1 v2 s.1 s.2) := it_eq2 (fun s : Int × YS => nb_Y_split_15 v1 v2 s.1 s.2) (v3, m)
noncomputable def N_Y_split (v1 : Int) (m : YS) : Option (YS) :=
  ix v1 120 <|
  (N_Y_of (m 49 v1) 8 m).bind fun z5 =>
  (NL_Y_split_15 v1 z5 0 m).bind <| fun m8 =>
  some m8
theorem f_Y_split {w y : Prop} {g : g_S} {n : NS} {m : YS} (hy : y) {xv1 : Int32} {v1 : Int} (ev1 : xv1 = Int32.ofInt v1) (rv1 : inR v1) (hR : RC w y g n m) : Rf (fun a b => RC w y a n b) (M_Y_split 1838 xv1 g) (N_Y_split v1 m) := by
  subst ev1
  unfold M_Y_split N_Y_split
  refine y_Q hR hy ya49.1 (by decide) ?_
  refine y_aI hR hy ya49 yl49 rfl rv1 (fun h2 h3 => ?_)
  refine v_c (y_gt hR hy) ?_
  refine rf_bind (f_Y_of hy rfl h3 (e_n 8) (show inR 8 by decide) hR) (fun a7 z5 h => ?_)
  obtain ⟨rfl, r6⟩ := h
  refine rf_bind (fL_Y_split_15 hy rfl rv1 rfl r6 (e_n 0) (show inR 0 by decide) hR) (fun a9 m8 h => ?_)
  have hR10 : RC w y a9 n m8 := h
  exact rf_ok (by exact hR10)
noncomputable def N_Y_joins (v1 : Int) (m : YS) : Option (Int) :=
  ix v1 120 <|
  if (m 107 v1) = 1 then
    if 0 < v1 then
      ix v1 120 <|
      if (m 108 v1) = 0 then
        (N_Y_edges v1 m).bind fun z11 =>
        if z11 = 0 then
          ix v1 120 <|
          ix (m 49 v1) 120 <|
          if (m 107 (m 49 v1)) = 1 then
            ix v1 120 <|
            (N_Y_of (m 49 v1) 0 m).bind fun z26 =>
            if z26 = 0 then
              some 1
            else
              some 0
          else
            some 0
        else
          some 0
      else
        some 0
    else
      some 0
  else
    some 0
theorem f_Y_joins {w y : Prop} {g : g_S} {n : NS} {m : YS} (hy : y) {xv1 : Int32} {v1 : Int} (ev1 : xv1 = Int32.ofInt v1) (rv1 : inR v1) (hR : RC w y g n m) : Rf (fun a b => RZ a b) (M_Y_joins 1838 xv1 g) (N_Y_joins v1 m) := by
  subst ev1
  unfold M_Y_joins N_Y_joins
  refine y_Q hR hy ya107.1 (by decide) ?_
  refine y_aI hR hy ya107 yl107 rfl rv1 (fun h2 h3 => ?_)
  refine rf_eq rfl (e_n 1) h3 (show inR 1 by decide) ?_ ?_
  · refine rf_lt (e_n 0) rfl (show inR 0 by decide) rv1 ?_ ?_
    · refine y_Q hR hy ya108.1 (by decide) ?_
      refine y_aZ hR hy ya108 yl108 rfl rv1 (fun h7 h8 => ?_)
      refine rf_eq rfl (e_n 0) (inZ.r h8) (show inR 0 by decide) ?_ ?_
      · refine v_c (y_gt hR hy) ?_
        refine rf_bind (f_Y_edges hy rfl rv1 hR) (fun a13 z11 h => ?_)
        obtain ⟨rfl, r12⟩ := h
        refine rf_eq rfl (e_n 0) r12 (show inR 0 by decide) ?_ ?_
        · refine y_Q hR hy ya107.1 (by decide) ?_
          refine y_Q hR hy ya49.1 (by decide) ?_
          refine y_aI hR hy ya49 yl49 rfl rv1 (fun h17 h18 => ?_)
          refine y_aI hR hy ya107 yl107 rfl h18 (fun h19 h20 => ?_)
          refine rf_eq rfl (e_n 1) h20 (show inR 1 by decide) ?_ ?_
          · refine y_Q hR hy ya49.1 (by decide) ?_
            refine y_aI hR hy ya49 yl49 rfl rv1 (fun h23 h24 => ?_)
            refine v_c (y_gt hR hy) ?_
            refine rf_bind (f_Y_of hy rfl h24 (e_n 0) (show inR 0 by decide) hR) (fun a28 z26 h => ?_)
            obtain ⟨rfl, r27⟩ := h
            refine rf_eq rfl (e_n 0) r27 (show inR 0 by decide) ?_ ?_
            · exact rf_ok (by exact ⟨(e_n 1), (.inr rfl)⟩)
            · exact rf_ok (by exact ⟨(e_n 0), (.inl rfl)⟩)
          · exact rf_ok (by exact ⟨(e_n 0), (.inl rfl)⟩)
        · exact rf_ok (by exact ⟨(e_n 0), (.inl rfl)⟩)
      · exact rf_ok (by exact ⟨(e_n 0), (.inl rfl)⟩)
    · exact rf_ok (by exact ⟨(e_n 0), (.inl rfl)⟩)
  · exact rf_ok (by exact ⟨(e_n 0), (.inl rfl)⟩)
noncomputable def N_Y_isFloatAt (v1 : Int) (v2 : Int) (m : YS) : Option (Int) :=
  ix v1 120 <|
  if v2 < (m 139 v1) then
    some 0
  else
    ix v1 120 <|
    if v2 < (m 140 v1) then
      some 1
    else
      some 0
theorem f_Y_isFloatAt {w y : Prop} {g : g_S} {n : NS} {m : YS} (hy : y) {xv1 : Int32} {v1 : Int} (ev1 : xv1 = Int32.ofInt v1) (rv1 : inR v1) {xv2 : Int32} {v2 : Int} (ev2 : xv2 = Int32.ofInt v2) (rv2 : inR v2) (hR : RC w y g n m) : Rf (fun a b => RZ a b) (M_Y_isFloatAt 1838 xv1 xv2 g) (N_Y_isFloatAt v1 v2 m) := by
  subst ev1
  subst ev2
  unfold M_Y_isFloatAt N_Y_isFloatAt
  refine y_Q hR hy ya139.1 (by decide) ?_
  refine y_aI hR hy ya139 yl139 rfl rv1 (fun h2 h3 => ?_)
  refine rf_lt rfl rfl rv2 h3 ?_ ?_
  · exact rf_ok (by exact ⟨(e_n 0), (.inl rfl)⟩)
  · refine y_Q hR hy ya140.1 (by decide) ?_
    refine y_aI hR hy ya140 yl140 rfl rv1 (fun h7 h8 => ?_)
    refine rf_lt rfl rfl rv2 h8 ?_ ?_
    · exact rf_ok (by exact ⟨(e_n 1), (.inr rfl)⟩)
    · exact rf_ok (by exact ⟨(e_n 0), (.inl rfl)⟩)
noncomputable def nb_Y_edgesAt_15 (v1 : Int) (v2 : Int) (m : YS) : Option ((Int × YS) ⊕ (YS)) :=
  if v2 < (m 136 0) then
    (N_Y_isFloatAt v2 v1 m).bind fun z4 =>
    if z4 = 0 then
      ck (v2 + 1) <|
      some (.inl (v2 + 1, m))
    else
      ix v2 120 <|
      if (m 141 v2) = 1 then
        ix v2 120 <|
        st (yw m 128 0 (max (m 128 0) (m 138 v2))) fun m19 =>
        ck (v2 + 1) <|
        some (.inl (v2 + 1, m19))
      else
        ix v2 120 <|
        st (yw m 129 0 (min (m 129 0) (m 137 v2))) fun m29 =>
        ck (v2 + 1) <|
        some (.inl (v2 + 1, m29))
  else
    some (.inr m)
theorem fb_Y_edgesAt_15 {w y : Prop} {g : g_S} {n : NS} {m : YS} (hy : y) {xv1 : Int32} {v1 : Int} (ev1 : xv1 = Int32.ofInt v1) (rv1 : inR v1) {xv2 : Int32} {v2 : Int} (ev2 : xv2 = Int32.ofInt v2) (rv2 : inR v2) (hR : RC w y g n m) : Rf (RS (fun a b => RI a.1 b.1 ∧ RC w y a.2 n b.2) (fun a b => RC w y a n b)) (b_Y_edgesAt_15 1838 xv1 xv2 g) (nb_Y_edgesAt_15 v1 v2 m) := by
  subst ev1
  subst ev2
  unfold b_Y_edgesAt_15 nb_Y_edgesAt_15
  refine y_I hR hy yk136 yt136 (fun h1 => ?_)
  refine rf_lt rfl rfl rv2 h1 ?_ ?_
  · refine v_c (y_gt hR hy) ?_
    refine rf_bind (f_Y_isFloatAt hy rfl rv2 rfl rv1 hR) (fun a6 z4 h => ?_)
    obtain ⟨rfl, r5⟩ := h
    refine rf_eq rfl (e_n 0) (inZ.r r5) (show inR 0 by decide) ?_ ?_
    · refine rf_ck (fun h8 => ?_)
      exact rf_ok (by exact ⟨⟨(e_add rfl (e_n 1)), h8⟩, hR⟩)
    · refine y_Q hR hy ya141.1 (by decide) ?_
      refine y_aI hR hy ya141 yl141 rfl rv2 (fun h10 h11 => ?_)
      refine rf_eq rfl (e_n 1) h11 (show inR 1 by decide) ?_ ?_
      · refine y_I hR hy yk128 yt128 (fun h13 => ?_)
        refine y_Q hR hy ya138.1 (by decide) ?_
        refine y_aI hR hy ya138 yl138 rfl rv2 (fun h15 h16 => ?_)
        refine y_pI hR hy yk128 ⟨yt128, yz128⟩ (e_mx rfl rfl h13 h16) (max_r h13 h16) (fun g21 m19 hR20 => ?_)
        refine rf_ck (fun h22 => ?_)
        exact rf_ok (by exact ⟨⟨(e_add rfl (e_n 1)), h22⟩, hR20⟩)
      · refine y_I hR hy yk129 yt129 (fun h23 => ?_)
        refine y_Q hR hy ya137.1 (by decide) ?_
        refine y_aI hR hy ya137 yl137 rfl rv2 (fun h25 h26 => ?_)
        refine y_pI hR hy yk129 ⟨yt129, yz129⟩ (e_mn rfl rfl h23 h26) (min_r h23 h26) (fun g31 m29 hR30 => ?_)
        refine rf_ck (fun h32 => ?_)
        exact rf_ok (by exact ⟨⟨(e_add rfl (e_n 1)), h32⟩, hR30⟩)
  · exact rf_ok (by exact hR)
noncomputable def NL_Y_edgesAt_15 (v1 : Int) (v2 : Int) (m : YS) : Option (YS) :=
  it (fun s : Int × YS => nb_Y_edgesAt_15 v1 s.1 s.2) (v2, m)
theorem fL_Y_edgesAt_15 {w y : Prop} {g : g_S} {n : NS} {m : YS} (hy : y) {xv1 : Int32} {v1 : Int} (ev1 : xv1 = Int32.ofInt v1) (rv1 : inR v1) {xv2 : Int32} {v2 : Int} (ev2 : xv2 = Int32.ofInt v2) (rv2 : inR v2) (hR : RC w y g n m) : Rf (fun a b => RC w y a n b) (L_Y_edgesAt_15 1838 xv1 xv2 g) (NL_Y_edgesAt_15 v1 v2 m) := by
  subst ev1
  subst ev2
  unfold L_Y_edgesAt_15 NL_Y_edgesAt_15
  refine rf_it (I := (fun a b => RI a.1 b.1 ∧ RC w y a.2 n b.2)) (fun s t h => ?_) ⟨⟨rfl, rv2⟩, hR⟩
  exact fb_Y_edgesAt_15 hy rfl rv1 h.1.1 h.1.2 h.2
theorem NL_Y_edgesAt_15_eq (v1 : Int) (v2 : Int) (m : YS) : NL_Y_edgesAt_15 v1 v2 m = itc (nb_Y_edgesAt_15 v1 v2 m) (fun s => NL_Y_edgesAt_15 v1 s.1 s.2) := it_eq2 (fun s : Int × YS => nb_Y_edgesAt_15 v1 s.1 s.2) (v2, m)
noncomputable def N_Y_edgesAt (v1 : Int) (m : YS) : Option (YS) :=
  st (yw m 128 0 0) fun m2 =>
  st (yw m2 129 0 (m2 145 0)) fun m7 =>
  (NL_Y_edgesAt_15 v1 0 m7).bind <| fun m10 =>
  some m10
theorem f_Y_edgesAt {w y : Prop} {g : g_S} {n : NS} {m : YS} (hy : y) {xv1 : Int32} {v1 : Int} (ev1 : xv1 = Int32.ofInt v1) (rv1 : inR v1) (hR : RC w y g n m) : Rf (fun a b => RC w y a n b) (M_Y_edgesAt 1838 xv1 g) (N_Y_edgesAt v1 m) := by
  subst ev1
  unfold M_Y_edgesAt N_Y_edgesAt
  refine y_pI hR hy yk128 ⟨yt128, yz128⟩ (e_n 0) (show inR 0 by decide) (fun g4 m2 hR3 => ?_)
  refine y_I hR3 hy yk145 yt145 (fun h5 => ?_)
  refine y_pI hR3 hy yk129 ⟨yt129, yz129⟩ rfl h5 (fun g9 m7 hR8 => ?_)
  refine rf_bind (fL_Y_edgesAt_15 hy rfl rv1 (e_n 0) (show inR 0 by decide) hR8) (fun a11 m10 h => ?_)
  have hR12 : RC w y a11 n m10 := h
  exact rf_ok (by exact hR12)
noncomputable def nk_Y_leastEnd_36 (v1 : Int) (v3 : Int) (m : YS) : Option ((Int × Int) ⊕ (Int)) :=
  ix v3 120 <|
  ck (v3 + 1) <|
  some (.inl ((m 140 v3), v3 + 1))
theorem fk_Y_leastEnd_36 {w y : Prop} {g : g_S} {n : NS} {m : YS} (hy : y) {xv1 : Int32} {v1 : Int} (ev1 : xv1 = Int32.ofInt v1) (rv1 : inR v1) {xv3 : Int32} {v3 : Int} (ev3 : xv3 = Int32.ofInt v3) (rv3 : inR v3) (hR : RC w y g n m) : Rf (RS (fun a b => RI a.1 b.1 ∧ RI a.2 b.2) (fun a b => RI a b)) (k_Y_leastEnd_36 1838 xv1 xv3 g) (nk_Y_leastEnd_36 v1 v3 m) := by
  subst ev1
  subst ev3
  unfold k_Y_leastEnd_36 nk_Y_leastEnd_36
  refine y_Q hR hy ya140.1 (by decide) ?_
  refine y_aI hR hy ya140 yl140 rfl rv3 (fun h2 h3 => ?_)
  refine rf_ck (fun h4 => ?_)
  exact rf_ok (by exact ⟨⟨rfl, h3⟩, ⟨(e_add rfl (e_n 1)), h4⟩⟩)
noncomputable def nb_Y_leastEnd_4 (v1 : Int) (v2 : Int) (v3 : Int) (m : YS) : Option ((Int × Int) ⊕ (Int)) :=
  if v3 < (m 136 0) then
    (N_Y_isFloatAt v3 v1 m).bind fun z4 =>
    if z4 = 0 then
      ck (v3 + 1) <|
      some (.inl (v2, v3 + 1))
    else
      if v2 = (-1) then
        nk_Y_leastEnd_36 v1 v3 m
      else
        ix v3 120 <|
        if (m 140 v3) < v2 then
          nk_Y_leastEnd_36 v1 v3 m
        else
          ck (v3 + 1) <|
          some (.inl (v2, v3 + 1))
  else
    some (.inr v2)
theorem fb_Y_leastEnd_4 {w y : Prop} {g : g_S} {n : NS} {m : YS} (hy : y) {xv1 : Int32} {v1 : Int} (ev1 : xv1 = Int32.ofInt v1) (rv1 : inR v1) {xv2 : Int32} {v2 : Int} (ev2 : xv2 = Int32.ofInt v2) (rv2 : inR v2) {xv3 : Int32} {v3 : Int} (ev3 : xv3 = Int32.ofInt v3) (rv3 : inR v3) (hR : RC w y g n m) : Rf (RS (fun a b => RI a.1 b.1 ∧ RI a.2 b.2) (fun a b => RI a b)) (b_Y_leastEnd_4 1838 xv1 xv2 xv3 g) (nb_Y_leastEnd_4 v1 v2 v3 m) := by
  subst ev1
  subst ev2
  subst ev3
  unfold b_Y_leastEnd_4 nb_Y_leastEnd_4
  refine y_I hR hy yk136 yt136 (fun h1 => ?_)
  refine rf_lt rfl rfl rv3 h1 ?_ ?_
  · refine v_c (y_gt hR hy) ?_
    refine rf_bind (f_Y_isFloatAt hy rfl rv3 rfl rv1 hR) (fun a6 z4 h => ?_)
    obtain ⟨rfl, r5⟩ := h
    refine rf_eq rfl (e_n 0) (inZ.r r5) (show inR 0 by decide) ?_ ?_
    · refine rf_ck (fun h8 => ?_)
      exact rf_ok (by exact ⟨⟨rfl, rv2⟩, ⟨(e_add rfl (e_n 1)), h8⟩⟩)
    · refine rf_eq rfl (e_m 1) rv2 (show inR (-1) by decide) ?_ ?_
      · exact fk_Y_leastEnd_36 hy rfl rv1 rfl rv3 hR
      · refine y_Q hR hy ya140.1 (by decide) ?_
        refine y_aI hR hy ya140 yl140 rfl rv3 (fun h11 h12 => ?_)
        refine rf_lt rfl rfl h12 rv2 ?_ ?_
        · exact fk_Y_leastEnd_36 hy rfl rv1 rfl rv3 hR
        · refine rf_ck (fun h14 => ?_)
          exact rf_ok (by exact ⟨⟨rfl, rv2⟩, ⟨(e_add rfl (e_n 1)), h14⟩⟩)
  · exact rf_ok (by exact ⟨rfl, rv2⟩)
noncomputable def NL_Y_leastEnd_4 (v1 : Int) (v2 : Int) (v3 : Int) (m : YS) : Option (Int) :=
  it (fun s : Int × Int => nb_Y_leastEnd_4 v1 s.1 s.2 m) (v2, v3)
theorem fL_Y_leastEnd_4 {w y : Prop} {g : g_S} {n : NS} {m : YS} (hy : y) {xv1 : Int32} {v1 : Int} (ev1 : xv1 = Int32.ofInt v1) (rv1 : inR v1) {xv2 : Int32} {v2 : Int} (ev2 : xv2 = Int32.ofInt v2) (rv2 : inR v2) {xv3 : Int32} {v3 : Int} (ev3 : xv3 = Int32.ofInt v3) (rv3 : inR v3) (hR : RC w y g n m) : Rf (fun a b => RI a b) (L_Y_leastEnd_4 1838 xv1 xv2 xv3 g) (NL_Y_leastEnd_4 v1 v2 v3 m) := by
  subst ev1
  subst ev2
  subst ev3
  unfold L_Y_leastEnd_4 NL_Y_leastEnd_4
  refine rf_it (I := (fun a b => RI a.1 b.1 ∧ RI a.2 b.2)) (fun s t h => ?_) ⟨⟨rfl, rv2⟩, ⟨rfl, rv3⟩⟩
  exact fb_Y_leastEnd_4 hy rfl rv1 h.1.1 h.1.2 h.2.1 h.2.2 hR
theorem NL_Y_leastEnd_4_eq (v1 : Int) (v2 : Int) (v3 : Int) (m : YS) : NL_Y_leastEnd_4 v1 v2 v3 m = itc (nb_Y_leastEnd_4 v1 v2 v3 m) (fun s => NL_Y_leastEnd_4 v1 s.1 s.2 m) := it_eq2 (fun s : Int × Int => nb_Y_leastEnd_4 v1 s.1 s.2 m) (v2, v3)
noncomputable def N_Y_leastEnd (v1 : Int) (m : YS) : Option (Int) :=
  (NL_Y_leastEnd_4 v1 (-1) 0 m).bind <| fun z1 =>
  some z1
theorem f_Y_leastEnd {w y : Prop} {g : g_S} {n : NS} {m : YS} (hy : y) {xv1 : Int32} {v1 : Int} (ev1 : xv1 = Int32.ofInt v1) (rv1 : inR v1) (hR : RC w y g n m) : Rf (fun a b => RI a b) (M_Y_leastEnd 1838 xv1 g) (N_Y_leastEnd v1 m) := by
  subst ev1
  unfold M_Y_leastEnd N_Y_leastEnd
  refine rf_bind (fL_Y_leastEnd_4 hy rfl rv1 (e_m 1) (show inR (-1) by decide) (e_n 0) (show inR 0 by decide) hR) (fun a2 z1 h => ?_)
  obtain ⟨rfl, r3⟩ := (show RI a2 z1 from h)
  exact rf_ok (by exact ⟨rfl, r3⟩)
noncomputable def nb_Y_putFloat_27 (v1 : Int) (v2 : Int) (v3 : Int) (v4 : Int) (v5 : Int) (m : YS) : Option ((Int × Int) ⊕ (Int)) :=
  if v5 < (m 136 0) then
    ix v5 120 <|
    ck (v5 + 1) <|
    some (.inl (max v4 (m 139 v5), v5 + 1))
  else
    some (.inr v4)
theorem fb_Y_putFloat_27 {w y : Prop} {g : g_S} {n : NS} {m : YS} (hy : y) {xv1 : Int32} {v1 : Int} (ev1 : xv1 = Int32.ofInt v1) (rv1 : inR v1) {xv2 : Int32} {v2 : Int} (ev2 : xv2 = Int32.ofInt v2) (rv2 : inR v2) {xv3 : Int32} {v3 : Int} (ev3 : xv3 = Int32.ofInt v3) (rv3 : inR v3) {xv4 : Int32} {v4 : Int} (ev4 : xv4 = Int32.ofInt v4) (rv4 : inR v4) {xv5 : Int32} {v5 : Int} (ev5 : xv5 = Int32.ofInt v5) (rv5 : inR v5) (hR : RC w y g n m) : Rf (RS (fun a b => RI a.1 b.1 ∧ RI a.2 b.2) (fun a b => RI a b)) (b_Y_putFloat_27 1838 xv1 xv2 xv3 xv4 xv5 g) (nb_Y_putFloat_27 v1 v2 v3 v4 v5 m) := by
  subst ev1
  subst ev2
  subst ev3
  subst ev4
  subst ev5
  unfold b_Y_putFloat_27 nb_Y_putFloat_27
  refine y_I hR hy yk136 yt136 (fun h1 => ?_)
  refine rf_lt rfl rfl rv5 h1 ?_ ?_
  · refine y_Q hR hy ya139.1 (by decide) ?_
    refine y_aI hR hy ya139 yl139 rfl rv5 (fun h4 h5 => ?_)
    refine rf_ck (fun h7 => ?_)
    exact rf_ok (by exact ⟨⟨(e_mx rfl rfl rv4 h5), (max_r rv4 h5)⟩, ⟨(e_add rfl (e_n 1)), h7⟩⟩)
  · exact rf_ok (by exact ⟨rfl, rv4⟩)
noncomputable def NL_Y_putFloat_27 (v1 : Int) (v2 : Int) (v3 : Int) (v4 : Int) (v5 : Int) (m : YS) : Option (Int) :=
  it (fun s : Int × Int => nb_Y_putFloat_27 v1 v2 v3 s.1 s.2 m) (v4, v5)
theorem fL_Y_putFloat_27 {w y : Prop} {g : g_S} {n : NS} {m : YS} (hy : y) {xv1 : Int32} {v1 : Int} (ev1 : xv1 = Int32.ofInt v1) (rv1 : inR v1) {xv2 : Int32} {v2 : Int} (ev2 : xv2 = Int32.ofInt v2) (rv2 : inR v2) {xv3 : Int32} {v3 : Int} (ev3 : xv3 = Int32.ofInt v3) (rv3 : inR v3) {xv4 : Int32} {v4 : Int} (ev4 : xv4 = Int32.ofInt v4) (rv4 : inR v4) {xv5 : Int32} {v5 : Int} (ev5 : xv5 = Int32.ofInt v5) (rv5 : inR v5) (hR : RC w y g n m) : Rf (fun a b => RI a b) (L_Y_putFloat_27 1838 xv1 xv2 xv3 xv4 xv5 g) (NL_Y_putFloat_27 v1 v2 v3 v4 v5 m) := by
  subst ev1
  subst ev2
  subst ev3
  subst ev4
  subst ev5
  unfold L_Y_putFloat_27 NL_Y_putFloat_27
  refine rf_it (I := (fun a b => RI a.1 b.1 ∧ RI a.2 b.2)) (fun s t h => ?_) ⟨⟨rfl, rv4⟩, ⟨rfl, rv5⟩⟩
  exact fb_Y_putFloat_27 hy rfl rv1 rfl rv2 rfl rv3 h.1.1 h.1.2 h.2.1 h.2.2 hR
theorem NL_Y_putFloat_27_eq (v1 : Int) (v2 : Int) (v3 : Int) (v4 : Int) (v5 : Int) (m : YS) : NL_Y_putFloat_27 v1 v2 v3 v4 v5 m = itc (nb_Y_putFloat_27 v1 v2 v3 v4 v5 m) (fun s => NL_Y_putFloat_27 v1 v2 v3 s.1 s.2 m) := it_eq2 (fun s : Int × Int => nb_Y_putFloat_27 v1 v2 v3 s.1 s.2 m) (v4, v5)
noncomputable def nb_Y_putFloat_70 (v1 : Int) (v2 : Int) (v3 : Int) (v4 : Int) (v5 : Int) (m : YS) : Option ((Int × Int × YS) ⊕ (Int × YS)) :=
  ck ((m 128 0) + v3) <|
  if (m 129 0) < ((m 128 0) + v3) then
    if v5 = (-1) then
      some (.inr (v4, m))
    else
      (N_Y_edgesAt v5 m).bind fun m7 =>
      (N_Y_leastEnd v5 m7).bind fun z11 =>
      some (.inl (v5, z11, m7))
  else
    some (.inr (v4, m))
theorem fb_Y_putFloat_70 {w y : Prop} {g : g_S} {n : NS} {m : YS} (hy : y) {xv1 : Int32} {v1 : Int} (ev1 : xv1 = Int32.ofInt v1) (rv1 : inR v1) {xv2 : Int32} {v2 : Int} (ev2 : xv2 = Int32.ofInt v2) (rv2 : inR v2) {xv3 : Int32} {v3 : Int} (ev3 : xv3 = Int32.ofInt v3) (rv3 : inR v3) {xv4 : Int32} {v4 : Int} (ev4 : xv4 = Int32.ofInt v4) (rv4 : inR v4) {xv5 : Int32} {v5 : Int} (ev5 : xv5 = Int32.ofInt v5) (rv5 : inR v5) (hR : RC w y g n m) : Rf (RS (fun a b => RI a.1 b.1 ∧ RI a.2.1 b.2.1 ∧ RC w y a.2.2 n b.2.2) (fun a b => RI a.1 b.1 ∧ RC w y a.2 n b.2)) (b_Y_putFloat_70 1838 xv1 xv2 xv3 xv4 xv5 g) (nb_Y_putFloat_70 v1 v2 v3 v4 v5 m) := by
  subst ev1
  subst ev2
  subst ev3
  subst ev4
  subst ev5
  unfold b_Y_putFloat_70 nb_Y_putFloat_70
  refine y_I hR hy yk128 yt128 (fun h1 => ?_)
  refine rf_ck (fun h2 => ?_)
  refine y_I hR hy yk129 yt129 (fun h3 => ?_)
  refine rf_lt rfl (e_add rfl rfl) h3 h2 ?_ ?_
  · refine rf_eq rfl (e_m 1) rv5 (show inR (-1) by decide) ?_ ?_
    · exact rf_ok (by exact ⟨⟨rfl, rv4⟩, hR⟩)
    · refine v_c (y_gt hR hy) ?_
      refine rf_bind (f_Y_edgesAt hy rfl rv5 hR) (fun g9 m7 hR8 => ?_)
      refine v_c (y_gt hR8 hy) ?_
      refine rf_bind (f_Y_leastEnd hy rfl rv5 hR8) (fun a13 z11 h => ?_)
      obtain ⟨rfl, r12⟩ := h
      exact rf_ok (by exact ⟨⟨rfl, rv5⟩, ⟨rfl, r12⟩, hR8⟩)
  · exact rf_ok (by exact ⟨⟨rfl, rv4⟩, hR⟩)
noncomputable def NL_Y_putFloat_70 (v1 : Int) (v2 : Int) (v3 : Int) (v4 : Int) (v5 : Int) (m : YS) : Option (Int × YS) :=
  it (fun s : Int × Int × YS => nb_Y_putFloat_70 v1 v2 v3 s.1 s.2.1 s.2.2) (v4, v5, m)
theorem fL_Y_putFloat_70 {w y : Prop} {g : g_S} {n : NS} {m : YS} (hy : y) {xv1 : Int32} {v1 : Int} (ev1 : xv1 = Int32.ofInt v1) (rv1 : inR v1) {xv2 : Int32} {v2 : Int} (ev2 : xv2 = Int32.ofInt v2) (rv2 : inR v2) {xv3 : Int32} {v3 : Int} (ev3 : xv3 = Int32.ofInt v3) (rv3 : inR v3) {xv4 : Int32} {v4 : Int} (ev4 : xv4 = Int32.ofInt v4) (rv4 : inR v4) {xv5 : Int32} {v5 : Int} (ev5 : xv5 = Int32.ofInt v5) (rv5 : inR v5) (hR : RC w y g n m) : Rf (fun a b => RI a.1 b.1 ∧ RC w y a.2 n b.2) (L_Y_putFloat_70 1838 xv1 xv2 xv3 xv4 xv5 g) (NL_Y_putFloat_70 v1 v2 v3 v4 v5 m) := by
  subst ev1
  subst ev2
  subst ev3
  subst ev4
  subst ev5
  unfold L_Y_putFloat_70 NL_Y_putFloat_70
  refine rf_it (I := (fun a b => RI a.1 b.1 ∧ RI a.2.1 b.2.1 ∧ RC w y a.2.2 n b.2.2)) (fun s t h => ?_) ⟨⟨rfl, rv4⟩, ⟨rfl, rv5⟩, hR⟩
  exact fb_Y_putFloat_70 hy rfl rv1 rfl rv2 rfl rv3 h.1.1 h.1.2 h.2.1.1 h.2.1.2 h.2.2
theorem NL_Y_putFloat_70_eq (v1 : Int) (v2 : Int) (v3 : Int) (v4 : Int) (v5 : Int) (m : YS) : NL_Y_putFloat_70 v1 v2 v3 v4 v5 m = itc (nb_Y_putFloat_70 v1 v2 v3 v4 v5 m) (fun s => NL_Y_putFloat_70 v1 v2 v3 s.1 s.2.1 s.2.2) := it_eq2 (fun s : Int × Int × YS => nb_Y_putFloat_70 v1 v2 v3 s.1 s.2.1 s.2.2) (v4, v5, m)
noncomputable def nk_Y_putFloat_134 (v1 : Int) (v2 : Int) (v3 : Int) (v4 : Int) (w0 : Int) (m : YS) : Option (YS) :=
  ix (m 136 0) 120 <|
  st (yw m 137 (m 136 0) w0) fun m4 =>
  ck (w0 + v3) <|
  ix (m4 136 0) 120 <|
  st (yw m4 138 (m4 136 0) (w0 + v3)) fun m11 =>
  ix (m11 136 0) 120 <|
  st (yw m11 139 (m11 136 0) v4) fun m17 =>
  ix v1 120 <|
  ck (v4 + (m17 113 v1)) <|
  ck (2 * v2) <|
  ck ((v4 + (m17 113 v1)) + (2 * v2)) <|
  ix (m17 136 0) 120 <|
  st (yw m17 140 (m17 136 0) ((v4 + (m17 113 v1)) + (2 * v2))) fun m29 =>
  (N_Y_of v1 10 m29).bind fun z35 =>
  ix (m29 136 0) 120 <|
  st (yw m29 141 (m29 136 0) z35) fun m39 =>
  ck ((m39 136 0) + 1) <|
  st (yw m39 136 0 ((m39 136 0) + 1)) fun m45 =>
  ck (w0 + v2) <|
  ix v1 120 <|
  st (yw m45 110 v1 (w0 + v2)) fun m51 =>
  ck (v4 + v2) <|
  ix v1 120 <|
  st (yw m51 111 v1 (v4 + v2)) fun m57 =>
  some m57
theorem fk_Y_putFloat_134 {w y : Prop} {g : g_S} {n : NS} {m : YS} (hy : y) {xv1 : Int32} {v1 : Int} (ev1 : xv1 = Int32.ofInt v1) (rv1 : inR v1) {xv2 : Int32} {v2 : Int} (ev2 : xv2 = Int32.ofInt v2) (rv2 : inR v2) {xv3 : Int32} {v3 : Int} (ev3 : xv3 = Int32.ofInt v3) (rv3 : inR v3) {xv4 : Int32} {v4 : Int} (ev4 : xv4 = Int32.ofInt v4) (rv4 : inR v4) {xw0 : Int32} {w0 : Int} (ew0 : xw0 = Int32.ofInt w0) (rw0 : inR w0) (hR : RC w y g n m) : Rf (fun a b => RC w y a n b) (k_Y_putFloat_134 1838 xv1 xv2 xv3 xv4 xw0 g) (nk_Y_putFloat_134 v1 v2 v3 v4 w0 m) := by
  subst ev1
  subst ev2
  subst ev3
  subst ev4
  subst ew0
  unfold k_Y_putFloat_134 nk_Y_putFloat_134
  refine y_Q hR hy ya137.1 (by decide) ?_
  refine y_I hR hy yk136 yt136 (fun h2 => ?_)
  refine y_sI hR hy ya137 yl137 rfl h2 rfl rw0 (fun g6 m4 hR5 => ?_)
  refine y_Q hR5 hy ya138.1 (by decide) ?_
  refine y_I hR5 hy yk136 yt136 (fun h8 => ?_)
  refine rf_ck (fun h9 => ?_)
  refine y_sI hR5 hy ya138 yl138 rfl h8 (e_add rfl rfl) h9 (fun g13 m11 hR12 => ?_)
  refine y_Q hR12 hy ya139.1 (by decide) ?_
  refine y_I hR12 hy yk136 yt136 (fun h15 => ?_)
  refine y_sI hR12 hy ya139 yl139 rfl h15 rfl rv4 (fun g19 m17 hR18 => ?_)
  refine y_Q hR18 hy ya140.1 (by decide) ?_
  refine y_I hR18 hy yk136 yt136 (fun h21 => ?_)
  refine y_Q hR18 hy ya113.1 (by decide) ?_
  refine y_aI hR18 hy ya113 yl113 rfl rv1 (fun h23 h24 => ?_)
  refine rf_ck (fun h25 => ?_)
  refine rf_ck (fun h26 => ?_)
  refine rf_ck (fun h27 => ?_)
  refine y_sI hR18 hy ya140 yl140 rfl h21 (e_add (e_add rfl rfl) (e_mul (e_n 2) rfl)) h27 (fun g31 m29 hR30 => ?_)
  refine y_Q hR30 hy ya141.1 (by decide) ?_
  refine y_I hR30 hy yk136 yt136 (fun h33 => ?_)
  refine v_c (y_gt hR30 hy) ?_
  refine rf_bind (f_Y_of hy rfl rv1 (e_n 10) (show inR 10 by decide) hR30) (fun a37 z35 h => ?_)
  obtain ⟨rfl, r36⟩ := h
  refine y_sI hR30 hy ya141 yl141 rfl h33 rfl r36 (fun g41 m39 hR40 => ?_)
  refine y_I hR40 hy yk136 yt136 (fun h42 => ?_)
  refine rf_ck (fun h43 => ?_)
  refine y_pI hR40 hy yk136 ⟨yt136, yz136⟩ (e_add rfl (e_n 1)) h43 (fun g47 m45 hR46 => ?_)
  refine y_Q hR46 hy ya110.1 (by decide) ?_
  refine rf_ck (fun h49 => ?_)
  refine y_sI hR46 hy ya110 yl110 rfl rv1 (e_add rfl rfl) h49 (fun g53 m51 hR52 => ?_)
  refine y_Q hR52 hy ya111.1 (by decide) ?_
  refine rf_ck (fun h55 => ?_)
  refine y_sI hR52 hy ya111 yl111 rfl rv1 (e_add rfl rfl) h55 (fun g59 m57 hR58 => ?_)
  exact rf_ok (by exact hR58)
noncomputable def nk_Y_putFloat_110 (v1 : Int) (v2 : Int) (v3 : Int) (v4 : Int) (m : YS) : Option (YS) :=
  (N_Y_of v1 10 m).bind fun z2 =>
  if z2 = 1 then
    nk_Y_putFloat_134 v1 v2 v3 v4 (m 128 0) m
  else
    ck ((m 129 0) - v3) <|
    nk_Y_putFloat_134 v1 v2 v3 v4 ((m 129 0) - v3) m
theorem fk_Y_putFloat_110 {w y : Prop} {g : g_S} {n : NS} {m : YS} (hy : y) {xv1 : Int32} {v1 : Int} (ev1 : xv1 = Int32.ofInt v1) (rv1 : inR v1) {xv2 : Int32} {v2 : Int} (ev2 : xv2 = Int32.ofInt v2) (rv2 : inR v2) {xv3 : Int32} {v3 : Int} (ev3 : xv3 = Int32.ofInt v3) (rv3 : inR v3) {xv4 : Int32} {v4 : Int} (ev4 : xv4 = Int32.ofInt v4) (rv4 : inR v4) (hR : RC w y g n m) : Rf (fun a b => RC w y a n b) (k_Y_putFloat_110 1838 xv1 xv2 xv3 xv4 g) (nk_Y_putFloat_110 v1 v2 v3 v4 m) := by
  subst ev1
  subst ev2
  subst ev3
  subst ev4
  unfold k_Y_putFloat_110 nk_Y_putFloat_110
  refine v_c (y_gt hR hy) ?_
  refine rf_bind (f_Y_of hy rfl rv1 (e_n 10) (show inR 10 by decide) hR) (fun a4 z2 h => ?_)
  obtain ⟨rfl, r3⟩ := h
  refine rf_eq rfl (e_n 1) r3 (show inR 1 by decide) ?_ ?_
  · refine y_I hR hy yk128 yt128 (fun h6 => ?_)
    exact fk_Y_putFloat_134 hy rfl rv1 rfl rv2 rfl rv3 rfl rv4 rfl h6 hR
  · refine y_I hR hy yk129 yt129 (fun h7 => ?_)
    refine rf_ck (fun h8 => ?_)
    exact fk_Y_putFloat_134 hy rfl rv1 rfl rv2 rfl rv3 rfl rv4 (e_sub rfl rfl) h8 hR
noncomputable def N_Y_putFloat (v1 : Int) (m : YS) : Option (YS) :=
  (N_Y_of v1 3 m).bind fun z2 =>
  ix v1 120 <|
  ck (2 * z2) <|
  ck ((m 112 v1) + (2 * z2)) <|
  (NL_Y_putFloat_27 v1 z2 ((m 112 v1) + (2 * z2)) (m 127 0) 0 m).bind <| fun z11 =>
  (N_Y_edgesAt z11 m).bind fun m15 =>
  (N_Y_leastEnd z11 m15).bind fun z19 =>
  (NL_Y_putFloat_70 v1 z2 ((m 112 v1) + (2 * z2)) z11 z19 m15).bind <| u2 fun z22 m23 =>
  nk_Y_putFloat_110 v1 z2 ((m 112 v1) + (2 * z2)) z22 m23
theorem f_Y_putFloat {w y : Prop} {g : g_S} {n : NS} {m : YS} (hy : y) {xv1 : Int32} {v1 : Int} (ev1 : xv1 = Int32.ofInt v1) (rv1 : inR v1) (hR : RC w y g n m) : Rf (fun a b => RC w y a n b) (M_Y_putFloat 1838 xv1 g) (N_Y_putFloat v1 m) := by
  subst ev1
  unfold M_Y_putFloat N_Y_putFloat
  refine v_c (y_gt hR hy) ?_
  refine rf_bind (f_Y_of hy rfl rv1 (e_n 3) (show inR 3 by decide) hR) (fun a4 z2 h => ?_)
  obtain ⟨rfl, r3⟩ := h
  refine y_Q hR hy ya112.1 (by decide) ?_
  refine y_aI hR hy ya112 yl112 rfl rv1 (fun h6 h7 => ?_)
  refine rf_ck (fun h8 => ?_)
  refine rf_ck (fun h9 => ?_)
  refine y_I hR hy yk127 yt127 (fun h10 => ?_)
  refine rf_bind (fL_Y_putFloat_27 hy rfl rv1 rfl r3 (e_add rfl (e_mul (e_n 2) rfl)) h9 rfl h10 (e_n 0) (show inR 0 by decide) hR) (fun a12 z11 h => ?_)
  obtain ⟨rfl, r13⟩ := (show RI a12 z11 from h)
  refine v_c (y_gt hR hy) ?_
  refine rf_bind (f_Y_edgesAt hy rfl r13 hR) (fun g17 m15 hR16 => ?_)
  refine v_c (y_gt hR16 hy) ?_
  refine rf_bind (f_Y_leastEnd hy rfl r13 hR16) (fun a21 z19 h => ?_)
  obtain ⟨rfl, r20⟩ := h
  refine rf_bind (fL_Y_putFloat_70 hy rfl rv1 rfl r3 (e_add rfl (e_mul (e_n 2) rfl)) h9 rfl r13 rfl r20 hR16) (fun a b h => ?_)
  obtain ⟨a24, a25⟩ := a
  obtain ⟨z22, m23⟩ := b
  refine rf_u2 ?_
  obtain ⟨rfl, r27⟩ := (show RI a24 z22 from h.1)
  have hR26 : RC w y a25 n m23 := h.2
  exact fk_Y_putFloat_110 hy rfl rv1 rfl r3 (e_add rfl (e_mul (e_n 2) rfl)) h9 rfl r27 hR26
noncomputable def N_Y_itemHigh (v1 : Int) (m : YS) : Option (Int) :=
  if v1 < 0 then
    ck ((-1) - v1) <|
    ix ((-1) - v1) 120 <|
    some (m 113 ((-1) - v1))
  else
    ix v1 24000 <|
    ix (m 118 v1) 120 <|
    (N_Y_of (m 49 (m 118 v1)) 8 m).bind fun z14 =>
    ck (7 * z14) <|
    some (7 * z14)
theorem f_Y_itemHigh {w y : Prop} {g : g_S} {n : NS} {m : YS} (hy : y) {xv1 : Int32} {v1 : Int} (ev1 : xv1 = Int32.ofInt v1) (rv1 : inR v1) (hR : RC w y g n m) : Rf (fun a b => RI a b) (M_Y_itemHigh 1838 xv1 g) (N_Y_itemHigh v1 m) := by
  subst ev1
  unfold M_Y_itemHigh N_Y_itemHigh
  refine rf_lt rfl (e_n 0) rv1 (show inR 0 by decide) ?_ ?_
  · refine y_Q hR hy ya113.1 (by decide) ?_
    refine rf_ck (fun h3 => ?_)
    refine y_aI hR hy ya113 yl113 (e_sub (e_m 1) rfl) h3 (fun h4 h5 => ?_)
    exact rf_ok (by exact ⟨rfl, h5⟩)
  · refine y_Q hR hy ya49.1 (by decide) ?_
    refine y_Q hR hy ya118.1 (by decide) ?_
    refine y_aI hR hy ya118 yl118 rfl rv1 (fun h9 h10 => ?_)
    refine y_aI hR hy ya49 yl49 rfl h10 (fun h11 h12 => ?_)
    refine v_c (y_gt hR hy) ?_
    refine rf_bind (f_Y_of hy rfl h12 (e_n 8) (show inR 8 by decide) hR) (fun a16 z14 h => ?_)
    obtain ⟨rfl, r15⟩ := h
    refine rf_ck (fun h17 => ?_)
    exact rf_ok (by exact ⟨(e_mul (e_n 7) rfl), h17⟩)
noncomputable def nb_Y_endLine_173 (v3 : Int) (m : YS) : Option ((Int × YS) ⊕ (YS)) :=
  if v3 < (m 143 0) then
    ix v3 120 <|
    (N_Y_putFloat (m 142 v3) m).bind fun m7 =>
    ck (v3 + 1) <|
    some (.inl (v3 + 1, m7))
  else
    some (.inr m)
theorem fb_Y_endLine_173 {w y : Prop} {g : g_S} {n : NS} {m : YS} (hy : y) {xv3 : Int32} {v3 : Int} (ev3 : xv3 = Int32.ofInt v3) (rv3 : inR v3) (hR : RC w y g n m) : Rf (RS (fun a b => RI a.1 b.1 ∧ RC w y a.2 n b.2) (fun a b => RC w y a n b)) (b_Y_endLine_173 1838 xv3 g) (nb_Y_endLine_173 v3 m) := by
  subst ev3
  unfold b_Y_endLine_173 nb_Y_endLine_173
  refine y_I hR hy yk143 yt143 (fun h1 => ?_)
  refine rf_lt rfl rfl rv3 h1 ?_ ?_
  · refine y_Q hR hy ya142.1 (by decide) ?_
    refine y_aI hR hy ya142 yl142 rfl rv3 (fun h4 h5 => ?_)
    refine v_c (y_gt hR hy) ?_
    refine rf_bind (f_Y_putFloat hy rfl h5 hR) (fun g9 m7 hR8 => ?_)
    refine rf_ck (fun h10 => ?_)
    exact rf_ok (by exact ⟨⟨(e_add rfl (e_n 1)), h10⟩, hR8⟩)
  · exact rf_ok (by exact hR)
noncomputable def NL_Y_endLine_173 (v3 : Int) (m : YS) : Option (YS) :=
  it (fun s : Int × YS => nb_Y_endLine_173 s.1 s.2) (v3, m)
theorem fL_Y_endLine_173 {w y : Prop} {g : g_S} {n : NS} {m : YS} (hy : y) {xv3 : Int32} {v3 : Int} (ev3 : xv3 = Int32.ofInt v3) (rv3 : inR v3) (hR : RC w y g n m) : Rf (fun a b => RC w y a n b) (L_Y_endLine_173 1838 xv3 g) (NL_Y_endLine_173 v3 m) := by
  subst ev3
  unfold L_Y_endLine_173 NL_Y_endLine_173
  refine rf_it (I := (fun a b => RI a.1 b.1 ∧ RC w y a.2 n b.2)) (fun s t h => ?_) ⟨⟨rfl, rv3⟩, hR⟩
  exact fb_Y_endLine_173 hy h.1.1 h.1.2 h.2
theorem NL_Y_endLine_173_eq (v3 : Int) (m : YS) : NL_Y_endLine_173 v3 m = itc (nb_Y_endLine_173 v3 m) (fun s => NL_Y_endLine_173 s.1 s.2) := it_eq2 (fun s : Int × YS => nb_Y_endLine_173 s.1 s.2) (v3, m)
noncomputable def nb_Y_endLine_43 (v2 : Int) (v3 : Int) (m : YS) : Option ((Int × YS) ⊕ (YS)) :=
  if v3 < (m 131 0) then
    ix v3 24000 <|
    ck ((m 127 0) + (m 132 0)) <|
    (N_Y_itemHigh (m 134 v3) m).bind fun z10 =>
    ck (((m 127 0) + (m 132 0)) - z10) <|
    if (m 134 v3) < 0 then
      ck ((-1) - (m 134 v3)) <|
      ix v3 24000 <|
      ck ((m 135 v3) + v2) <|
      ix ((-1) - (m 134 v3)) 120 <|
      st (yw m 110 ((-1) - (m 134 v3)) ((m 135 v3) + v2)) fun m22 =>
      ck ((-1) - (m 134 v3)) <|
      ix ((-1) - (m 134 v3)) 120 <|
      st (yw m22 111 ((-1) - (m 134 v3)) (((m 127 0) + (m 132 0)) - z10)) fun m28 =>
      ck (v3 + 1) <|
      some (.inl (v3 + 1, m28))
    else
      ix v3 24000 <|
      ck ((m 135 v3) + v2) <|
      ix (m 134 v3) 24000 <|
      st (yw m 121 (m 134 v3) ((m 135 v3) + v2)) fun m38 =>
      ix (m 134 v3) 24000 <|
      st (yw m38 122 (m 134 v3) (((m 127 0) + (m 132 0)) - z10)) fun m43 =>
      ck (v3 + 1) <|
      some (.inl (v3 + 1, m43))
  else
    some (.inr m)
theorem fb_Y_endLine_43 {w y : Prop} {g : g_S} {n : NS} {m : YS} (hy : y) {xv2 : Int32} {v2 : Int} (ev2 : xv2 = Int32.ofInt v2) (rv2 : inR v2) {xv3 : Int32} {v3 : Int} (ev3 : xv3 = Int32.ofInt v3) (rv3 : inR v3) (hR : RC w y g n m) : Rf (RS (fun a b => RI a.1 b.1 ∧ RC w y a.2 n b.2) (fun a b => RC w y a n b)) (b_Y_endLine_43 1838 xv2 xv3 g) (nb_Y_endLine_43 v2 v3 m) := by
  subst ev2
  subst ev3
  unfold b_Y_endLine_43 nb_Y_endLine_43
  refine y_I hR hy yk131 yt131 (fun h1 => ?_)
  refine rf_lt rfl rfl rv3 h1 ?_ ?_
  · refine y_Q hR hy ya134.1 (by decide) ?_
    refine y_aI hR hy ya134 yl134 rfl rv3 (fun h4 h5 => ?_)
    refine y_I hR hy yk127 yt127 (fun h6 => ?_)
    refine y_I hR hy yk132 yt132 (fun h7 => ?_)
    refine rf_ck (fun h8 => ?_)
    refine v_c (y_gt hR hy) ?_
    refine rf_bind (f_Y_itemHigh hy rfl h5 hR) (fun a12 z10 h => ?_)
    obtain ⟨rfl, r11⟩ := h
    refine rf_ck (fun h13 => ?_)
    refine rf_lt rfl (e_n 0) h5 (show inR 0 by decide) ?_ ?_
    · refine y_Q hR hy ya110.1 (by decide) ?_
      refine rf_ck (fun h16 => ?_)
      refine y_Q hR hy ya135.1 (by decide) ?_
      refine y_aI hR hy ya135 yl135 rfl rv3 (fun h18 h19 => ?_)
      refine rf_ck (fun h20 => ?_)
      refine y_sI hR hy ya110 yl110 (e_sub (e_m 1) rfl) h16 (e_add rfl rfl) h20 (fun g24 m22 hR23 => ?_)
      refine y_Q hR23 hy ya111.1 (by decide) ?_
      refine rf_ck (fun h26 => ?_)
      refine y_sI hR23 hy ya111 yl111 (e_sub (e_m 1) rfl) h26 (e_sub (e_add rfl rfl) rfl) h13 (fun g30 m28 hR29 => ?_)
      refine rf_ck (fun h31 => ?_)
      exact rf_ok (by exact ⟨⟨(e_add rfl (e_n 1)), h31⟩, hR29⟩)
    · refine y_Q hR hy ya121.1 (by decide) ?_
      refine y_Q hR hy ya135.1 (by decide) ?_
      refine y_aI hR hy ya135 yl135 rfl rv3 (fun h34 h35 => ?_)
      refine rf_ck (fun h36 => ?_)
      refine y_sI hR hy ya121 yl121 rfl h5 (e_add rfl rfl) h36 (fun g40 m38 hR39 => ?_)
      refine y_Q hR39 hy ya122.1 (by decide) ?_
      refine y_sI hR39 hy ya122 yl122 rfl h5 (e_sub (e_add rfl rfl) rfl) h13 (fun g45 m43 hR44 => ?_)
      refine rf_ck (fun h46 => ?_)
      exact rf_ok (by exact ⟨⟨(e_add rfl (e_n 1)), h46⟩, hR44⟩)
  · exact rf_ok (by exact hR)
noncomputable def NL_Y_endLine_43 (v2 : Int) (v3 : Int) (m : YS) : Option (YS) :=
  it (fun s : Int × YS => nb_Y_endLine_43 v2 s.1 s.2) (v3, m)
theorem fL_Y_endLine_43 {w y : Prop} {g : g_S} {n : NS} {m : YS} (hy : y) {xv2 : Int32} {v2 : Int} (ev2 : xv2 = Int32.ofInt v2) (rv2 : inR v2) {xv3 : Int32} {v3 : Int} (ev3 : xv3 = Int32.ofInt v3) (rv3 : inR v3) (hR : RC w y g n m) : Rf (fun a b => RC w y a n b) (L_Y_endLine_43 1838 xv2 xv3 g) (NL_Y_endLine_43 v2 v3 m) := by
  subst ev2
  subst ev3
  unfold L_Y_endLine_43 NL_Y_endLine_43
  refine rf_it (I := (fun a b => RI a.1 b.1 ∧ RC w y a.2 n b.2)) (fun s t h => ?_) ⟨⟨rfl, rv3⟩, hR⟩
  exact fb_Y_endLine_43 hy rfl rv2 h.1.1 h.1.2 h.2
theorem NL_Y_endLine_43_eq (v2 : Int) (v3 : Int) (m : YS) : NL_Y_endLine_43 v2 v3 m = itc (nb_Y_endLine_43 v2 v3 m) (fun s => NL_Y_endLine_43 v2 s.1 s.2) := it_eq2 (fun s : Int × YS => nb_Y_endLine_43 v2 s.1 s.2) (v3, m)
noncomputable def nk_Y_endLine_40 (w0 : Int) (m : YS) : Option (YS) :=
  (NL_Y_endLine_43 w0 0 m).bind <| fun m1 =>
  ck ((m1 127 0) + (m1 132 0)) <|
  st (yw m1 127 0 ((m1 127 0) + (m1 132 0))) fun m8 =>
  st (yw m8 131 0 0) fun m12 =>
  st (yw m12 132 0 0) fun m16 =>
  st (yw m16 144 0 0) fun m20 =>
  (NL_Y_endLine_173 0 m20).bind <| fun m23 =>
  st (yw m23 143 0 0) fun m27 =>
  some m27
theorem fk_Y_endLine_40 {w y : Prop} {g : g_S} {n : NS} {m : YS} (hy : y) {xw0 : Int32} {w0 : Int} (ew0 : xw0 = Int32.ofInt w0) (rw0 : inR w0) (hR : RC w y g n m) : Rf (fun a b => RC w y a n b) (k_Y_endLine_40 1838 xw0 g) (nk_Y_endLine_40 w0 m) := by
  subst ew0
  unfold k_Y_endLine_40 nk_Y_endLine_40
  refine rf_bind (fL_Y_endLine_43 hy rfl rw0 (e_n 0) (show inR 0 by decide) hR) (fun a2 m1 h => ?_)
  have hR3 : RC w y a2 n m1 := h
  refine y_I hR3 hy yk127 yt127 (fun h4 => ?_)
  refine y_I hR3 hy yk132 yt132 (fun h5 => ?_)
  refine rf_ck (fun h6 => ?_)
  refine y_pI hR3 hy yk127 ⟨yt127, yz127⟩ (e_add rfl rfl) h6 (fun g10 m8 hR9 => ?_)
  refine y_pI hR9 hy yk131 ⟨yt131, yz131⟩ (e_n 0) (show inR 0 by decide) (fun g14 m12 hR13 => ?_)
  refine y_pI hR13 hy yk132 ⟨yt132, yz132⟩ (e_n 0) (show inR 0 by decide) (fun g18 m16 hR17 => ?_)
  refine y_pZ hR17 hy yk144 yt144 (e_n 0) (.inl rfl) (fun g22 m20 hR21 => ?_)
  refine rf_bind (fL_Y_endLine_173 hy (e_n 0) (show inR 0 by decide) hR21) (fun a24 m23 h => ?_)
  have hR25 : RC w y a24 n m23 := h
  refine y_pI hR25 hy yk143 ⟨yt143, yz143⟩ (e_n 0) (show inR 0 by decide) (fun g29 m27 hR28 => ?_)
  exact rf_ok (by exact hR28)
noncomputable def N_Y_endLine (m : YS) : Option (YS) :=
  ck ((m 129 0) - (m 130 0)) <|
  if (m 133 0) = 0 then
    nk_Y_endLine_40 0 m
  else
    if (m 133 0) = 1 then
      cd (max 0 ((m 129 0) - (m 130 0))) 2 <|
      nk_Y_endLine_40 ((max 0 ((m 129 0) - (m 130 0))) / 2) m
    else
      nk_Y_endLine_40 (max 0 ((m 129 0) - (m 130 0))) m
theorem f_Y_endLine {w y : Prop} {g : g_S} {n : NS} {m : YS} (hy : y) (hR : RC w y g n m) : Rf (fun a b => RC w y a n b) (M_Y_endLine 1838 g) (N_Y_endLine m) := by
  unfold M_Y_endLine N_Y_endLine
  refine y_I hR hy yk129 yt129 (fun h1 => ?_)
  refine y_I hR hy yk130 yt130 (fun h2 => ?_)
  refine rf_ck (fun h3 => ?_)
  refine y_I hR hy yk133 yt133 (fun h5 => ?_)
  refine rf_eq rfl (e_n 0) h5 (show inR 0 by decide) ?_ ?_
  · exact fk_Y_endLine_40 hy (e_n 0) (show inR 0 by decide) hR
  · refine y_I hR hy yk133 yt133 (fun h7 => ?_)
    refine rf_eq rfl (e_n 1) h7 (show inR 1 by decide) ?_ ?_
    · refine rf_dv (e_mx (e_n 0) (e_sub rfl rfl) (show inR 0 by decide) h3) (e_n 2) (max_r (show inR 0 by decide) h3) (show inR 2 by decide) (fun h9 => ?_)
      exact fk_Y_endLine_40 hy rfl h9 hR
    · exact fk_Y_endLine_40 hy (e_mx (e_n 0) (e_sub rfl rfl) (show inR 0 by decide) h3) (max_r (show inR 0 by decide) h3) hR
noncomputable def nk_Y_putItem_165 (v1 : Int) (v2 : Int) (v3 : Int) (v4 : Int) (v6 : Int) (m : YS) : Option ((Int × YS) ⊕ (YS)) :=
  if 0 < (m 131 0) then
    (N_Y_endLine m).bind fun m4 =>
    some (.inl (v4, m4))
  else
    st (yw m 127 0 v6) fun m8 =>
    some (.inl (v4, m8))
theorem fk_Y_putItem_165 {w y : Prop} {g : g_S} {n : NS} {m : YS} (hy : y) {xv1 : Int32} {v1 : Int} (ev1 : xv1 = Int32.ofInt v1) (rv1 : inR v1) {xv2 : Int32} {v2 : Int} (ev2 : xv2 = Int32.ofInt v2) (rv2 : inR v2) {xv3 : Int32} {v3 : Int} (ev3 : xv3 = Int32.ofInt v3) (rv3 : inR v3) {xv4 : Int32} {v4 : Int} (ev4 : xv4 = Int32.ofInt v4) (rv4 : inR v4) {xv6 : Int32} {v6 : Int} (ev6 : xv6 = Int32.ofInt v6) (rv6 : inR v6) (hR : RC w y g n m) : Rf (RS (fun a b => RI a.1 b.1 ∧ RC w y a.2 n b.2) (fun a b => RC w y a n b)) (k_Y_putItem_165 1838 xv1 xv2 xv3 xv4 xv6 g) (nk_Y_putItem_165 v1 v2 v3 v4 v6 m) := by
  subst ev1
  subst ev2
  subst ev3
  subst ev4
  subst ev6
  unfold k_Y_putItem_165 nk_Y_putItem_165
  refine y_I hR hy yk131 yt131 (fun h1 => ?_)
  refine rf_lt (e_n 0) rfl (show inR 0 by decide) h1 ?_ ?_
  · refine v_c (y_gt hR hy) ?_
    refine rf_bind (f_Y_endLine hy hR) (fun g6 m4 hR5 => ?_)
    exact rf_ok (by exact ⟨⟨rfl, rv4⟩, hR5⟩)
  · refine y_pI hR hy yk127 ⟨yt127, yz127⟩ rfl rv6 (fun g10 m8 hR9 => ?_)
    exact rf_ok (by exact ⟨⟨rfl, rv4⟩, hR9⟩)
noncomputable def nk_Y_putItem_104 (v1 : Int) (v2 : Int) (v3 : Int) (v5 : Int) (m : YS) : Option ((Int × YS) ⊕ (YS)) :=
  ix (m 131 0) 24000 <|
  st (yw m 134 (m 131 0) v1) fun m4 =>
  ix (m4 131 0) 24000 <|
  st (yw m4 135 (m4 131 0) v5) fun m10 =>
  ck ((m10 131 0) + 1) <|
  st (yw m10 131 0 ((m10 131 0) + 1)) fun m16 =>
  ck (v5 + v2) <|
  st (yw m16 130 0 (v5 + v2)) fun m21 =>
  (N_Y_itemHigh v1 m21).bind fun z26 =>
  st (yw m21 132 0 (max (m21 132 0) z26)) fun m31 =>
  some (.inl (1, m31))
theorem fk_Y_putItem_104 {w y : Prop} {g : g_S} {n : NS} {m : YS} (hy : y) {xv1 : Int32} {v1 : Int} (ev1 : xv1 = Int32.ofInt v1) (rv1 : inR v1) {xv2 : Int32} {v2 : Int} (ev2 : xv2 = Int32.ofInt v2) (rv2 : inR v2) {xv3 : Int32} {v3 : Int} (ev3 : xv3 = Int32.ofInt v3) (rv3 : inR v3) {xv5 : Int32} {v5 : Int} (ev5 : xv5 = Int32.ofInt v5) (rv5 : inR v5) (hR : RC w y g n m) : Rf (RS (fun a b => RI a.1 b.1 ∧ RC w y a.2 n b.2) (fun a b => RC w y a n b)) (k_Y_putItem_104 1838 xv1 xv2 xv3 xv5 g) (nk_Y_putItem_104 v1 v2 v3 v5 m) := by
  subst ev1
  subst ev2
  subst ev3
  subst ev5
  unfold k_Y_putItem_104 nk_Y_putItem_104
  refine y_Q hR hy ya134.1 (by decide) ?_
  refine y_I hR hy yk131 yt131 (fun h2 => ?_)
  refine y_sI hR hy ya134 yl134 rfl h2 rfl rv1 (fun g6 m4 hR5 => ?_)
  refine y_Q hR5 hy ya135.1 (by decide) ?_
  refine y_I hR5 hy yk131 yt131 (fun h8 => ?_)
  refine y_sI hR5 hy ya135 yl135 rfl h8 rfl rv5 (fun g12 m10 hR11 => ?_)
  refine y_I hR11 hy yk131 yt131 (fun h13 => ?_)
  refine rf_ck (fun h14 => ?_)
  refine y_pI hR11 hy yk131 ⟨yt131, yz131⟩ (e_add rfl (e_n 1)) h14 (fun g18 m16 hR17 => ?_)
  refine rf_ck (fun h19 => ?_)
  refine y_pI hR17 hy yk130 ⟨yt130, yz130⟩ (e_add rfl rfl) h19 (fun g23 m21 hR22 => ?_)
  refine y_I hR22 hy yk132 yt132 (fun h24 => ?_)
  refine v_c (y_gt hR22 hy) ?_
  refine rf_bind (f_Y_itemHigh hy rfl rv1 hR22) (fun a28 z26 h => ?_)
  obtain ⟨rfl, r27⟩ := h
  refine y_pI hR22 hy yk132 ⟨yt132, yz132⟩ (e_mx rfl rfl h24 r27) (max_r h24 r27) (fun g33 m31 hR32 => ?_)
  exact rf_ok (by exact ⟨⟨(e_n 1), (show inR 1 by decide)⟩, hR32⟩)
noncomputable def nk_Y_putItem_78 (v1 : Int) (v2 : Int) (v3 : Int) (v4 : Int) (v5 : Int) (w0 : Int) (m : YS) : Option ((Int × YS) ⊕ (YS)) :=
  ck (v5 + v2) <|
  if (m 129 0) < (v5 + v2) then
    if (m 131 0) = 0 then
      if w0 = (-1) then
        nk_Y_putItem_104 v1 v2 v3 v5 m
      else
        nk_Y_putItem_165 v1 v2 v3 v4 w0 m
    else
      nk_Y_putItem_165 v1 v2 v3 v4 w0 m
  else
    nk_Y_putItem_104 v1 v2 v3 v5 m
theorem fk_Y_putItem_78 {w y : Prop} {g : g_S} {n : NS} {m : YS} (hy : y) {xv1 : Int32} {v1 : Int} (ev1 : xv1 = Int32.ofInt v1) (rv1 : inR v1) {xv2 : Int32} {v2 : Int} (ev2 : xv2 = Int32.ofInt v2) (rv2 : inR v2) {xv3 : Int32} {v3 : Int} (ev3 : xv3 = Int32.ofInt v3) (rv3 : inR v3) {xv4 : Int32} {v4 : Int} (ev4 : xv4 = Int32.ofInt v4) (rv4 : inR v4) {xv5 : Int32} {v5 : Int} (ev5 : xv5 = Int32.ofInt v5) (rv5 : inR v5) {xw0 : Int32} {w0 : Int} (ew0 : xw0 = Int32.ofInt w0) (rw0 : inR w0) (hR : RC w y g n m) : Rf (RS (fun a b => RI a.1 b.1 ∧ RC w y a.2 n b.2) (fun a b => RC w y a n b)) (k_Y_putItem_78 1838 xv1 xv2 xv3 xv4 xv5 xw0 g) (nk_Y_putItem_78 v1 v2 v3 v4 v5 w0 m) := by
  subst ev1
  subst ev2
  subst ev3
  subst ev4
  subst ev5
  subst ew0
  unfold k_Y_putItem_78 nk_Y_putItem_78
  refine rf_ck (fun h1 => ?_)
  refine y_I hR hy yk129 yt129 (fun h2 => ?_)
  refine rf_lt rfl (e_add rfl rfl) h2 h1 ?_ ?_
  · refine y_I hR hy yk131 yt131 (fun h4 => ?_)
    refine rf_eq rfl (e_n 0) h4 (show inR 0 by decide) ?_ ?_
    · refine rf_eq rfl (e_m 1) rw0 (show inR (-1) by decide) ?_ ?_
      · exact fk_Y_putItem_104 hy rfl rv1 rfl rv2 rfl rv3 rfl rv5 hR
      · exact fk_Y_putItem_165 hy rfl rv1 rfl rv2 rfl rv3 rfl rv4 rfl rw0 hR
    · exact fk_Y_putItem_165 hy rfl rv1 rfl rv2 rfl rv3 rfl rv4 rfl rw0 hR
  · exact fk_Y_putItem_104 hy rfl rv1 rfl rv2 rfl rv3 rfl rv5 hR
noncomputable def nk_Y_putItem_56 (v1 : Int) (v2 : Int) (v3 : Int) (v4 : Int) (w0 : Int) (w1 : Int) (m : YS) : Option ((Int × YS) ⊕ (YS)) :=
  ck (w1 + w0) <|
  if 0 < (m 131 0) then
    nk_Y_putItem_78 v1 v2 v3 v4 (w1 + w0) (-1) m
  else
    (N_Y_leastEnd (m 127 0) m).bind fun z6 =>
    nk_Y_putItem_78 v1 v2 v3 v4 (w1 + w0) z6 m
theorem fk_Y_putItem_56 {w y : Prop} {g : g_S} {n : NS} {m : YS} (hy : y) {xv1 : Int32} {v1 : Int} (ev1 : xv1 = Int32.ofInt v1) (rv1 : inR v1) {xv2 : Int32} {v2 : Int} (ev2 : xv2 = Int32.ofInt v2) (rv2 : inR v2) {xv3 : Int32} {v3 : Int} (ev3 : xv3 = Int32.ofInt v3) (rv3 : inR v3) {xv4 : Int32} {v4 : Int} (ev4 : xv4 = Int32.ofInt v4) (rv4 : inR v4) {xw0 : Int32} {w0 : Int} (ew0 : xw0 = Int32.ofInt w0) (rw0 : inR w0) {xw1 : Int32} {w1 : Int} (ew1 : xw1 = Int32.ofInt w1) (rw1 : inR w1) (hR : RC w y g n m) : Rf (RS (fun a b => RI a.1 b.1 ∧ RC w y a.2 n b.2) (fun a b => RC w y a n b)) (k_Y_putItem_56 1838 xv1 xv2 xv3 xv4 xw0 xw1 g) (nk_Y_putItem_56 v1 v2 v3 v4 w0 w1 m) := by
  subst ev1
  subst ev2
  subst ev3
  subst ev4
  subst ew0
  subst ew1
  unfold k_Y_putItem_56 nk_Y_putItem_56
  refine rf_ck (fun h1 => ?_)
  refine y_I hR hy yk131 yt131 (fun h2 => ?_)
  refine rf_lt (e_n 0) rfl (show inR 0 by decide) h2 ?_ ?_
  · exact fk_Y_putItem_78 hy rfl rv1 rfl rv2 rfl rv3 rfl rv4 (e_add rfl rfl) h1 (e_m 1) (show inR (-1) by decide) hR
  · refine y_I hR hy yk127 yt127 (fun h4 => ?_)
    refine v_c (y_gt hR hy) ?_
    refine rf_bind (f_Y_leastEnd hy rfl h4 hR) (fun a8 z6 h => ?_)
    obtain ⟨rfl, r7⟩ := h
    exact fk_Y_putItem_78 hy rfl rv1 rfl rv2 rfl rv3 rfl rv4 (e_add rfl rfl) h1 rfl r7 hR
noncomputable def nk_Y_putItem_55 (v1 : Int) (v2 : Int) (v3 : Int) (v4 : Int) (w0 : Int) (m : YS) : Option ((Int × YS) ⊕ (YS)) :=
  nk_Y_putItem_56 v1 v2 v3 v4 0 w0 m
theorem fk_Y_putItem_55 {w y : Prop} {g : g_S} {n : NS} {m : YS} (hy : y) {xv1 : Int32} {v1 : Int} (ev1 : xv1 = Int32.ofInt v1) (rv1 : inR v1) {xv2 : Int32} {v2 : Int} (ev2 : xv2 = Int32.ofInt v2) (rv2 : inR v2) {xv3 : Int32} {v3 : Int} (ev3 : xv3 = Int32.ofInt v3) (rv3 : inR v3) {xv4 : Int32} {v4 : Int} (ev4 : xv4 = Int32.ofInt v4) (rv4 : inR v4) {xw0 : Int32} {w0 : Int} (ew0 : xw0 = Int32.ofInt w0) (rw0 : inR w0) (hR : RC w y g n m) : Rf (RS (fun a b => RI a.1 b.1 ∧ RC w y a.2 n b.2) (fun a b => RC w y a n b)) (k_Y_putItem_55 1838 xv1 xv2 xv3 xv4 xw0 g) (nk_Y_putItem_55 v1 v2 v3 v4 w0 m) := by
  subst ev1
  subst ev2
  subst ev3
  subst ev4
  subst ew0
  unfold k_Y_putItem_55 nk_Y_putItem_55
  exact fk_Y_putItem_56 hy rfl rv1 rfl rv2 rfl rv3 rfl rv4 (e_n 0) (show inR 0 by decide) rfl rw0 hR
noncomputable def nk_Y_putItem_31 (v1 : Int) (v2 : Int) (v3 : Int) (v4 : Int) (m : YS) : Option ((Int × YS) ⊕ (YS)) :=
  if 0 < (m 131 0) then
    if (m 144 0) = 0 then
      nk_Y_putItem_55 v1 v2 v3 v4 (m 130 0) m
    else
      ck (3 * v3) <|
      nk_Y_putItem_56 v1 v2 v3 v4 (3 * v3) (m 130 0) m
  else
    nk_Y_putItem_55 v1 v2 v3 v4 (m 130 0) m
theorem fk_Y_putItem_31 {w y : Prop} {g : g_S} {n : NS} {m : YS} (hy : y) {xv1 : Int32} {v1 : Int} (ev1 : xv1 = Int32.ofInt v1) (rv1 : inR v1) {xv2 : Int32} {v2 : Int} (ev2 : xv2 = Int32.ofInt v2) (rv2 : inR v2) {xv3 : Int32} {v3 : Int} (ev3 : xv3 = Int32.ofInt v3) (rv3 : inR v3) {xv4 : Int32} {v4 : Int} (ev4 : xv4 = Int32.ofInt v4) (rv4 : inR v4) (hR : RC w y g n m) : Rf (RS (fun a b => RI a.1 b.1 ∧ RC w y a.2 n b.2) (fun a b => RC w y a n b)) (k_Y_putItem_31 1838 xv1 xv2 xv3 xv4 g) (nk_Y_putItem_31 v1 v2 v3 v4 m) := by
  subst ev1
  subst ev2
  subst ev3
  subst ev4
  unfold k_Y_putItem_31 nk_Y_putItem_31
  refine y_I hR hy yk130 yt130 (fun h1 => ?_)
  refine y_I hR hy yk131 yt131 (fun h2 => ?_)
  refine rf_lt (e_n 0) rfl (show inR 0 by decide) h2 ?_ ?_
  · refine y_Z hR hy yk144 yt144 yz144 (fun h4 => ?_)
    refine rf_eq rfl (e_n 0) (inZ.r h4) (show inR 0 by decide) ?_ ?_
    · exact fk_Y_putItem_55 hy rfl rv1 rfl rv2 rfl rv3 rfl rv4 rfl h1 hR
    · refine rf_ck (fun h6 => ?_)
      exact fk_Y_putItem_56 hy rfl rv1 rfl rv2 rfl rv3 rfl rv4 (e_mul (e_n 3) rfl) h6 rfl h1 hR
  · exact fk_Y_putItem_55 hy rfl rv1 rfl rv2 rfl rv3 rfl rv4 rfl h1 hR
noncomputable def nb_Y_putItem_3 (v1 : Int) (v2 : Int) (v3 : Int) (v4 : Int) (m : YS) : Option ((Int × YS) ⊕ (YS)) :=
  if v4 = 0 then
    if (m 131 0) = 0 then
      (N_Y_edgesAt (m 127 0) m).bind fun m6 =>
      st (yw m6 130 0 (m6 128 0)) fun m11 =>
      nk_Y_putItem_31 v1 v2 v3 v4 m11
    else
      nk_Y_putItem_31 v1 v2 v3 v4 m
  else
    some (.inr m)
theorem fb_Y_putItem_3 {w y : Prop} {g : g_S} {n : NS} {m : YS} (hy : y) {xv1 : Int32} {v1 : Int} (ev1 : xv1 = Int32.ofInt v1) (rv1 : inR v1) {xv2 : Int32} {v2 : Int} (ev2 : xv2 = Int32.ofInt v2) (rv2 : inR v2) {xv3 : Int32} {v3 : Int} (ev3 : xv3 = Int32.ofInt v3) (rv3 : inR v3) {xv4 : Int32} {v4 : Int} (ev4 : xv4 = Int32.ofInt v4) (rv4 : inR v4) (hR : RC w y g n m) : Rf (RS (fun a b => RI a.1 b.1 ∧ RC w y a.2 n b.2) (fun a b => RC w y a n b)) (b_Y_putItem_3 1838 xv1 xv2 xv3 xv4 g) (nb_Y_putItem_3 v1 v2 v3 v4 m) := by
  subst ev1
  subst ev2
  subst ev3
  subst ev4
  unfold b_Y_putItem_3 nb_Y_putItem_3
  refine rf_eq rfl (e_n 0) rv4 (show inR 0 by decide) ?_ ?_
  · refine y_I hR hy yk131 yt131 (fun h2 => ?_)
    refine rf_eq rfl (e_n 0) h2 (show inR 0 by decide) ?_ ?_
    · refine y_I hR hy yk127 yt127 (fun h4 => ?_)
      refine v_c (y_gt hR hy) ?_
      refine rf_bind (f_Y_edgesAt hy rfl h4 hR) (fun g8 m6 hR7 => ?_)
      refine y_I hR7 hy yk128 yt128 (fun h9 => ?_)
      refine y_pI hR7 hy yk130 ⟨yt130, yz130⟩ rfl h9 (fun g13 m11 hR12 => ?_)
      exact fk_Y_putItem_31 hy rfl rv1 rfl rv2 rfl rv3 rfl rv4 hR12
    · exact fk_Y_putItem_31 hy rfl rv1 rfl rv2 rfl rv3 rfl rv4 hR
  · exact rf_ok (by exact hR)
noncomputable def NL_Y_putItem_3 (v1 : Int) (v2 : Int) (v3 : Int) (v4 : Int) (m : YS) : Option (YS) :=
  it (fun s : Int × YS => nb_Y_putItem_3 v1 v2 v3 s.1 s.2) (v4, m)
theorem fL_Y_putItem_3 {w y : Prop} {g : g_S} {n : NS} {m : YS} (hy : y) {xv1 : Int32} {v1 : Int} (ev1 : xv1 = Int32.ofInt v1) (rv1 : inR v1) {xv2 : Int32} {v2 : Int} (ev2 : xv2 = Int32.ofInt v2) (rv2 : inR v2) {xv3 : Int32} {v3 : Int} (ev3 : xv3 = Int32.ofInt v3) (rv3 : inR v3) {xv4 : Int32} {v4 : Int} (ev4 : xv4 = Int32.ofInt v4) (rv4 : inR v4) (hR : RC w y g n m) : Rf (fun a b => RC w y a n b) (L_Y_putItem_3 1838 xv1 xv2 xv3 xv4 g) (NL_Y_putItem_3 v1 v2 v3 v4 m) := by
  subst ev1
  subst ev2
  subst ev3
  subst ev4
  unfold L_Y_putItem_3 NL_Y_putItem_3
  refine rf_it (I := (fun a b => RI a.1 b.1 ∧ RC w y a.2 n b.2)) (fun s t h => ?_) ⟨⟨rfl, rv4⟩, hR⟩
  exact fb_Y_putItem_3 hy rfl rv1 rfl rv2 rfl rv3 h.1.1 h.1.2 h.2
theorem NL_Y_putItem_3_eq (v1 : Int) (v2 : Int) (v3 : Int) (v4 : Int) (m : YS) : NL_Y_putItem_3 v1 v2 v3 v4 m = itc (nb_Y_putItem_3 v1 v2 v3 v4 m) (fun s => NL_Y_putItem_3 v1 v2 v3 s.1 s.2) := it_eq2 (fun s : Int × YS => nb_Y_putItem_3 v1 v2 v3 s.1 s.2) (v4, m)
noncomputable def N_Y_putItem (v1 : Int) (v2 : Int) (v3 : Int) (m : YS) : Option (YS) :=
  (NL_Y_putItem_3 v1 v2 v3 0 m).bind <| fun m1 =>
  st (yw m1 144 0 0) fun m5 =>
  some m5
theorem f_Y_putItem {w y : Prop} {g : g_S} {n : NS} {m : YS} (hy : y) {xv1 : Int32} {v1 : Int} (ev1 : xv1 = Int32.ofInt v1) (rv1 : inR v1) {xv2 : Int32} {v2 : Int} (ev2 : xv2 = Int32.ofInt v2) (rv2 : inR v2) {xv3 : Int32} {v3 : Int} (ev3 : xv3 = Int32.ofInt v3) (rv3 : inR v3) (hR : RC w y g n m) : Rf (fun a b => RC w y a n b) (M_Y_putItem 1838 xv1 xv2 xv3 g) (N_Y_putItem v1 v2 v3 m) := by
  subst ev1
  subst ev2
  subst ev3
  unfold M_Y_putItem N_Y_putItem
  refine rf_bind (fL_Y_putItem_3 hy rfl rv1 rfl rv2 rfl rv3 (e_n 0) (show inR 0 by decide) hR) (fun a2 m1 h => ?_)
  have hR3 : RC w y a2 n m1 := h
  refine y_pZ hR3 hy yk144 yt144 (e_n 0) (.inl rfl) (fun g7 m5 hR6 => ?_)
  exact rf_ok (by exact hR6)
noncomputable def nb_Y_lineText_23 (v1 : Int) (v3 : Int) (v2 : Int) (v4 : Int) (m : YS) : Option ((Int × Int × YS) ⊕ (YS)) :=
  ix v1 120 <|
  if v4 < (m 62 v1) then
    ck (400 * v1) <|
    ck ((400 * v1) + v4) <|
    ix ((400 * v1) + v4) 48000 <|
    (N_Y_isBlank (m 61 ((400 * v1) + v4)) m).bind fun z11 =>
    if z11 = 0 then
      ix v2 24000 <|
      (N_Y_putItem v2 (m 123 v2) v3 m).bind fun m19 =>
      ix v2 24000 <|
      ix v2 24000 <|
      ck ((m19 119 v2) + (m19 120 v2)) <|
      ck (v2 + 1) <|
      some (.inl (v2 + 1, (m19 119 v2) + (m19 120 v2), m19))
    else
      st (yw m 144 0 1) fun m31 =>
      ck (v4 + 1) <|
      some (.inl (v2, v4 + 1, m31))
  else
    some (.inr m)
theorem fb_Y_lineText_23 {w y : Prop} {g : g_S} {n : NS} {m : YS} (hy : y) {xv1 : Int32} {v1 : Int} (ev1 : xv1 = Int32.ofInt v1) (rv1 : inR v1) {xv3 : Int32} {v3 : Int} (ev3 : xv3 = Int32.ofInt v3) (rv3 : inR v3) {xv2 : Int32} {v2 : Int} (ev2 : xv2 = Int32.ofInt v2) (rv2 : inR v2) {xv4 : Int32} {v4 : Int} (ev4 : xv4 = Int32.ofInt v4) (rv4 : inR v4) (hR : RC w y g n m) : Rf (RS (fun a b => RI a.1 b.1 ∧ RI a.2.1 b.2.1 ∧ RC w y a.2.2 n b.2.2) (fun a b => RC w y a n b)) (b_Y_lineText_23 1838 xv1 xv3 xv2 xv4 g) (nb_Y_lineText_23 v1 v3 v2 v4 m) := by
  subst ev1
  subst ev3
  subst ev2
  subst ev4
  unfold b_Y_lineText_23 nb_Y_lineText_23
  refine y_Q hR hy ya62.1 (by decide) ?_
  refine y_aI hR hy ya62 yl62 rfl rv1 (fun h2 h3 => ?_)
  refine rf_lt rfl rfl rv4 h3 ?_ ?_
  · refine y_Q hR hy ya61.1 (by decide) ?_
    refine rf_ck (fun h6 => ?_)
    refine rf_ck (fun h7 => ?_)
    refine y_aB hR hy ya61 yl61 (e_add (e_mul (e_n 400) rfl) rfl) h7 (fun h8 h9 => ?_)
    refine rf_bind (f_Y_isBlank hy rfl (inB.r h9) hR) (fun a13 z11 h => ?_)
    obtain ⟨rfl, r12⟩ := h
    refine rf_eq rfl (e_n 0) (inZ.r r12) (show inR 0 by decide) ?_ ?_
    · refine y_Q hR hy ya123.1 (by decide) ?_
      refine y_aI hR hy ya123 yl123 rfl rv2 (fun h16 h17 => ?_)
      refine v_c (y_gt hR hy) ?_
      refine rf_bind (f_Y_putItem hy rfl rv2 rfl h17 rfl rv3 hR) (fun g21 m19 hR20 => ?_)
      refine y_Q hR20 hy ya119.1 (by decide) ?_
      refine y_aI hR20 hy ya119 yl119 rfl rv2 (fun h23 h24 => ?_)
      refine y_Q hR20 hy ya120.1 (by decide) ?_
      refine y_aI hR20 hy ya120 yl120 rfl rv2 (fun h26 h27 => ?_)
      refine rf_ck (fun h28 => ?_)
      refine rf_ck (fun h29 => ?_)
      exact rf_ok (by exact ⟨⟨(e_add rfl (e_n 1)), h29⟩, ⟨(e_add rfl rfl), h28⟩, hR20⟩)
    · refine y_pZ hR hy yk144 yt144 (e_n 1) (.inr rfl) (fun g33 m31 hR32 => ?_)
      refine rf_ck (fun h34 => ?_)
      exact rf_ok (by exact ⟨⟨rfl, rv2⟩, ⟨(e_add rfl (e_n 1)), h34⟩, hR32⟩)
  · exact rf_ok (by exact hR)
noncomputable def NL_Y_lineText_23 (v1 : Int) (v3 : Int) (v2 : Int) (v4 : Int) (m : YS) : Option (YS) :=
  it (fun s : Int × Int × YS => nb_Y_lineText_23 v1 v3 s.1 s.2.1 s.2.2) (v2, v4, m)
theorem fL_Y_lineText_23 {w y : Prop} {g : g_S} {n : NS} {m : YS} (hy : y) {xv1 : Int32} {v1 : Int} (ev1 : xv1 = Int32.ofInt v1) (rv1 : inR v1) {xv3 : Int32} {v3 : Int} (ev3 : xv3 = Int32.ofInt v3) (rv3 : inR v3) {xv2 : Int32} {v2 : Int} (ev2 : xv2 = Int32.ofInt v2) (rv2 : inR v2) {xv4 : Int32} {v4 : Int} (ev4 : xv4 = Int32.ofInt v4) (rv4 : inR v4) (hR : RC w y g n m) : Rf (fun a b => RC w y a n b) (L_Y_lineText_23 1838 xv1 xv3 xv2 xv4 g) (NL_Y_lineText_23 v1 v3 v2 v4 m) := by
  subst ev1
  subst ev3
  subst ev2
  subst ev4
  unfold L_Y_lineText_23 NL_Y_lineText_23
  refine rf_it (I := (fun a b => RI a.1 b.1 ∧ RI a.2.1 b.2.1 ∧ RC w y a.2.2 n b.2.2)) (fun s t h => ?_) ⟨⟨rfl, rv2⟩, ⟨rfl, rv4⟩, hR⟩
  exact fb_Y_lineText_23 hy rfl rv1 rfl rv3 h.1.1 h.1.2 h.2.1.1 h.2.1.2 h.2.2
theorem NL_Y_lineText_23_eq (v1 : Int) (v3 : Int) (v2 : Int) (v4 : Int) (m : YS) : NL_Y_lineText_23 v1 v3 v2 v4 m = itc (nb_Y_lineText_23 v1 v3 v2 v4 m) (fun s => NL_Y_lineText_23 v1 v3 s.1 s.2.1 s.2.2) := it_eq2 (fun s : Int × Int × YS => nb_Y_lineText_23 v1 v3 s.1 s.2.1 s.2.2) (v2, v4, m)
noncomputable def N_Y_lineText (v1 : Int) (m : YS) : Option (YS) :=
  ix v1 120 <|
  ix v1 120 <|
  (N_Y_of (m 49 v1) 8 m).bind fun z8 =>
  (NL_Y_lineText_23 v1 z8 (m 116 v1) 0 m).bind <| fun m11 =>
  some m11
theorem f_Y_lineText {w y : Prop} {g : g_S} {n : NS} {m : YS} (hy : y) {xv1 : Int32} {v1 : Int} (ev1 : xv1 = Int32.ofInt v1) (rv1 : inR v1) (hR : RC w y g n m) : Rf (fun a b => RC w y a n b) (M_Y_lineText 1838 xv1 g) (N_Y_lineText v1 m) := by
  subst ev1
  unfold M_Y_lineText N_Y_lineText
  refine y_Q hR hy ya116.1 (by decide) ?_
  refine y_aI hR hy ya116 yl116 rfl rv1 (fun h2 h3 => ?_)
  refine y_Q hR hy ya49.1 (by decide) ?_
  refine y_aI hR hy ya49 yl49 rfl rv1 (fun h5 h6 => ?_)
  refine v_c (y_gt hR hy) ?_
  refine rf_bind (f_Y_of hy rfl h6 (e_n 8) (show inR 8 by decide) hR) (fun a10 z8 h => ?_)
  obtain ⟨rfl, r9⟩ := h
  refine rf_bind (fL_Y_lineText_23 hy rfl rv1 rfl r9 rfl h3 (e_n 0) (show inR 0 by decide) hR) (fun a12 m11 h => ?_)
  have hR13 : RC w y a12 n m11 := h
  exact rf_ok (by exact hR13)
noncomputable def nk_Y_lineThing_173 (v1 : Int) (v2 : Int) (v3 : Int) (m : YS) : Option ((Int × YS) ⊕ (YS)) :=
  if v3 = 0 then
    (N_Y_after v2 v1 m).bind fun z3 =>
    some (.inl (z3, m))
  else
    (N_Y_behind v2 v1 m).bind fun z7 =>
    some (.inl (z7, m))
theorem fk_Y_lineThing_173 {w y : Prop} {g : g_S} {n : NS} {m : YS} (hy : y) {xv1 : Int32} {v1 : Int} (ev1 : xv1 = Int32.ofInt v1) (rv1 : inR v1) {xv2 : Int32} {v2 : Int} (ev2 : xv2 = Int32.ofInt v2) (rv2 : inR v2) {xv3 : Int32} {v3 : Int} (ev3 : xv3 = Int32.ofInt v3) (rv3 : inR v3) (hR : RC w y g n m) : Rf (RS (fun a b => RI a.1 b.1 ∧ RC w y a.2 n b.2) (fun a b => RC w y a n b)) (k_Y_lineThing_173 1838 xv1 xv2 xv3 g) (nk_Y_lineThing_173 v1 v2 v3 m) := by
  subst ev1
  subst ev2
  subst ev3
  unfold k_Y_lineThing_173 nk_Y_lineThing_173
  refine rf_eq rfl (e_n 0) rv3 (show inR 0 by decide) ?_ ?_
  · refine v_c (y_gt hR hy) ?_
    refine rf_bind (f_Y_after hy rfl rv2 rfl rv1 hR) (fun a5 z3 h => ?_)
    obtain ⟨rfl, r4⟩ := h
    exact rf_ok (by exact ⟨⟨rfl, r4⟩, hR⟩)
  · refine v_c (y_gt hR hy) ?_
    refine rf_bind (f_Y_behind hy rfl rv2 rfl rv1 hR) (fun a9 z7 h => ?_)
    obtain ⟨rfl, r8⟩ := h
    exact rf_ok (by exact ⟨⟨rfl, r8⟩, hR⟩)
noncomputable def nk_Y_lineThing_172 (v1 : Int) (v2 : Int) (w0 : Int) (m : YS) : Option ((Int × YS) ⊕ (YS)) :=
  nk_Y_lineThing_173 v1 v2 w0 m
theorem fk_Y_lineThing_172 {w y : Prop} {g : g_S} {n : NS} {m : YS} (hy : y) {xv1 : Int32} {v1 : Int} (ev1 : xv1 = Int32.ofInt v1) (rv1 : inR v1) {xv2 : Int32} {v2 : Int} (ev2 : xv2 = Int32.ofInt v2) (rv2 : inR v2) {xw0 : Int32} {w0 : Int} (ew0 : xw0 = Int32.ofInt w0) (rw0 : inR w0) (hR : RC w y g n m) : Rf (RS (fun a b => RI a.1 b.1 ∧ RC w y a.2 n b.2) (fun a b => RC w y a n b)) (k_Y_lineThing_172 1838 xv1 xv2 xw0 g) (nk_Y_lineThing_172 v1 v2 w0 m) := by
  subst ev1
  subst ev2
  subst ew0
  unfold k_Y_lineThing_172 nk_Y_lineThing_172
  exact fk_Y_lineThing_173 hy rfl rv1 rfl rv2 rfl rw0 hR
noncomputable def nk_Y_lineThing_131 (v1 : Int) (v2 : Int) (v3 : Int) (m : YS) : Option ((Int × YS) ⊕ (YS)) :=
  st (yw m 144 0 0) fun m2 =>
  nk_Y_lineThing_173 v1 v2 v3 m2
theorem fk_Y_lineThing_131 {w y : Prop} {g : g_S} {n : NS} {m : YS} (hy : y) {xv1 : Int32} {v1 : Int} (ev1 : xv1 = Int32.ofInt v1) (rv1 : inR v1) {xv2 : Int32} {v2 : Int} (ev2 : xv2 = Int32.ofInt v2) (rv2 : inR v2) {xv3 : Int32} {v3 : Int} (ev3 : xv3 = Int32.ofInt v3) (rv3 : inR v3) (hR : RC w y g n m) : Rf (RS (fun a b => RI a.1 b.1 ∧ RC w y a.2 n b.2) (fun a b => RC w y a n b)) (k_Y_lineThing_131 1838 xv1 xv2 xv3 g) (nk_Y_lineThing_131 v1 v2 v3 m) := by
  subst ev1
  subst ev2
  subst ev3
  unfold k_Y_lineThing_131 nk_Y_lineThing_131
  refine y_pZ hR hy yk144 yt144 (e_n 0) (.inl rfl) (fun g4 m2 hR3 => ?_)
  exact fk_Y_lineThing_173 hy rfl rv1 rfl rv2 rfl rv3 hR3
noncomputable def nb_Y_lineThing_2 (v1 : Int) (v2 : Int) (m : YS) : Option ((Int × YS) ⊕ (YS)) :=
  if v2 = (-1) then
    some (.inr m)
  else
    (N_Y_isBox v2 m).bind fun z3 =>
    if z3 = 0 then
      ix v2 120 <|
      if (m 107 v2) = 4 then
        ck ((-1) - v2) <|
        ix v2 120 <|
        (N_Y_of v2 8 m).bind fun z16 =>
        (N_Y_putItem ((-1) - v2) (m 112 v2) z16 m).bind fun m20 =>
        nk_Y_lineThing_173 v1 v2 1 m20
      else
        ix v2 120 <|
        if (m 107 v2) = 5 then
          if 0 < (m 131 0) then
            (N_Y_endLine m).bind fun m30 =>
            nk_Y_lineThing_131 v1 v2 1 m30
          else
            (N_Y_of v2 8 m).bind fun z35 =>
            ck (7 * z35) <|
            ck ((m 127 0) + (7 * z35)) <|
            st (yw m 127 0 ((m 127 0) + (7 * z35))) fun m41 =>
            nk_Y_lineThing_131 v1 v2 1 m41
        else
          ix v2 120 <|
          if (m 107 v2) = 6 then
            (N_Y_lineText v2 m).bind fun m49 =>
            nk_Y_lineThing_173 v1 v2 1 m49
          else
            ix v2 120 <|
            if (m 107 v2) = 0 then
              nk_Y_lineThing_172 v1 v2 1 m
            else
              nk_Y_lineThing_172 v1 v2 0 m
    else
      if 0 < (m 131 0) then
        ix (m 143 0) 120 <|
        st (yw m 142 (m 143 0) v2) fun m61 =>
        ck ((m61 143 0) + 1) <|
        st (yw m61 143 0 ((m61 143 0) + 1)) fun m67 =>
        nk_Y_lineThing_173 v1 v2 1 m67
      else
        (N_Y_putFloat v2 m).bind fun m71 =>
        nk_Y_lineThing_173 v1 v2 1 m71
theorem fb_Y_lineThing_2 {w y : Prop} {g : g_S} {n : NS} {m : YS} (hy : y) {xv1 : Int32} {v1 : Int} (ev1 : xv1 = Int32.ofInt v1) (rv1 : inR v1) {xv2 : Int32} {v2 : Int} (ev2 : xv2 = Int32.ofInt v2) (rv2 : inR v2) (hR : RC w y g n m) : Rf (RS (fun a b => RI a.1 b.1 ∧ RC w y a.2 n b.2) (fun a b => RC w y a n b)) (b_Y_lineThing_2 1838 xv1 xv2 g) (nb_Y_lineThing_2 v1 v2 m) := by
  subst ev1
  subst ev2
  unfold b_Y_lineThing_2 nb_Y_lineThing_2
  refine rf_eq rfl (e_m 1) rv2 (show inR (-1) by decide) ?_ ?_
  · exact rf_ok (by exact hR)
  · refine v_c (y_gt hR hy) ?_
    refine rf_bind (f_Y_isBox hy rfl rv2 hR) (fun a5 z3 h => ?_)
    obtain ⟨rfl, r4⟩ := h
    refine rf_eq rfl (e_n 0) (inZ.r r4) (show inR 0 by decide) ?_ ?_
    · refine y_Q hR hy ya107.1 (by decide) ?_
      refine y_aI hR hy ya107 yl107 rfl rv2 (fun h8 h9 => ?_)
      refine rf_eq rfl (e_n 4) h9 (show inR 4 by decide) ?_ ?_
      · refine rf_ck (fun h11 => ?_)
        refine y_Q hR hy ya112.1 (by decide) ?_
        refine y_aI hR hy ya112 yl112 rfl rv2 (fun h13 h14 => ?_)
        refine v_c (y_gt hR hy) ?_
        refine rf_bind (f_Y_of hy rfl rv2 (e_n 8) (show inR 8 by decide) hR) (fun a18 z16 h => ?_)
        obtain ⟨rfl, r17⟩ := h
        refine v_c (y_gt hR hy) ?_
        refine rf_bind (f_Y_putItem hy (e_sub (e_m 1) rfl) h11 rfl h14 rfl r17 hR) (fun g22 m20 hR21 => ?_)
        exact fk_Y_lineThing_173 hy rfl rv1 rfl rv2 (e_n 1) (show inR 1 by decide) hR21
      · refine y_Q hR hy ya107.1 (by decide) ?_
        refine y_aI hR hy ya107 yl107 rfl rv2 (fun h24 h25 => ?_)
        refine rf_eq rfl (e_n 5) h25 (show inR 5 by decide) ?_ ?_
        · refine y_I hR hy yk131 yt131 (fun h27 => ?_)
          refine rf_lt (e_n 0) rfl (show inR 0 by decide) h27 ?_ ?_
          · refine v_c (y_gt hR hy) ?_
            refine rf_bind (f_Y_endLine hy hR) (fun g32 m30 hR31 => ?_)
            exact fk_Y_lineThing_131 hy rfl rv1 rfl rv2 (e_n 1) (show inR 1 by decide) hR31
          · refine y_I hR hy yk127 yt127 (fun h33 => ?_)
            refine v_c (y_gt hR hy) ?_
            refine rf_bind (f_Y_of hy rfl rv2 (e_n 8) (show inR 8 by decide) hR) (fun a37 z35 h => ?_)
            obtain ⟨rfl, r36⟩ := h
            refine rf_ck (fun h38 => ?_)
            refine rf_ck (fun h39 => ?_)
            refine y_pI hR hy yk127 ⟨yt127, yz127⟩ (e_add rfl (e_mul (e_n 7) rfl)) h39 (fun g43 m41 hR42 => ?_)
            exact fk_Y_lineThing_131 hy rfl rv1 rfl rv2 (e_n 1) (show inR 1 by decide) hR42
        · refine y_Q hR hy ya107.1 (by decide) ?_
          refine y_aI hR hy ya107 yl107 rfl rv2 (fun h45 h46 => ?_)
          refine rf_eq rfl (e_n 6) h46 (show inR 6 by decide) ?_ ?_
          · refine v_c (y_gt hR hy) ?_
            refine rf_bind (f_Y_lineText hy rfl rv2 hR) (fun g51 m49 hR50 => ?_)
            exact fk_Y_lineThing_173 hy rfl rv1 rfl rv2 (e_n 1) (show inR 1 by decide) hR50
          · refine y_Q hR hy ya107.1 (by decide) ?_
            refine y_aI hR hy ya107 yl107 rfl rv2 (fun h53 h54 => ?_)
            refine rf_eq rfl (e_n 0) h54 (show inR 0 by decide) ?_ ?_
            · exact fk_Y_lineThing_172 hy rfl rv1 rfl rv2 (e_n 1) (show inR 1 by decide) hR
            · exact fk_Y_lineThing_172 hy rfl rv1 rfl rv2 (e_n 0) (show inR 0 by decide) hR
    · refine y_I hR hy yk131 yt131 (fun h56 => ?_)
      refine rf_lt (e_n 0) rfl (show inR 0 by decide) h56 ?_ ?_
      · refine y_Q hR hy ya142.1 (by decide) ?_
        refine y_I hR hy yk143 yt143 (fun h59 => ?_)
        refine y_sI hR hy ya142 yl142 rfl h59 rfl rv2 (fun g63 m61 hR62 => ?_)
        refine y_I hR62 hy yk143 yt143 (fun h64 => ?_)
        refine rf_ck (fun h65 => ?_)
        refine y_pI hR62 hy yk143 ⟨yt143, yz143⟩ (e_add rfl (e_n 1)) h65 (fun g69 m67 hR68 => ?_)
        exact fk_Y_lineThing_173 hy rfl rv1 rfl rv2 (e_n 1) (show inR 1 by decide) hR68
      · refine v_c (y_gt hR hy) ?_
        refine rf_bind (f_Y_putFloat hy rfl rv2 hR) (fun g73 m71 hR72 => ?_)
        exact fk_Y_lineThing_173 hy rfl rv1 rfl rv2 (e_n 1) (show inR 1 by decide) hR72
noncomputable def NL_Y_lineThing_2 (v1 : Int) (v2 : Int) (m : YS) : Option (YS) :=
  it (fun s : Int × YS => nb_Y_lineThing_2 v1 s.1 s.2) (v2, m)
theorem fL_Y_lineThing_2 {w y : Prop} {g : g_S} {n : NS} {m : YS} (hy : y) {xv1 : Int32} {v1 : Int} (ev1 : xv1 = Int32.ofInt v1) (rv1 : inR v1) {xv2 : Int32} {v2 : Int} (ev2 : xv2 = Int32.ofInt v2) (rv2 : inR v2) (hR : RC w y g n m) : Rf (fun a b => RC w y a n b) (L_Y_lineThing_2 1838 xv1 xv2 g) (NL_Y_lineThing_2 v1 v2 m) := by
  subst ev1
  subst ev2
  unfold L_Y_lineThing_2 NL_Y_lineThing_2
  refine rf_it (I := (fun a b => RI a.1 b.1 ∧ RC w y a.2 n b.2)) (fun s t h => ?_) ⟨⟨rfl, rv2⟩, hR⟩
  exact fb_Y_lineThing_2 hy rfl rv1 h.1.1 h.1.2 h.2
theorem NL_Y_lineThing_2_eq (v1 : Int) (v2 : Int) (m : YS) : NL_Y_lineThing_2 v1 v2 m = itc (nb_Y_lineThing_2 v1 v2 m) (fun s => NL_Y_lineThing_2 v1 s.1 s.2) := it_eq2 (fun s : Int × YS => nb_Y_lineThing_2 v1 s.1 s.2) (v2, m)
noncomputable def N_Y_lineThing (v1 : Int) (m : YS) : Option (YS) :=
  (NL_Y_lineThing_2 v1 v1 m).bind <| fun m1 =>
  some m1
theorem f_Y_lineThing {w y : Prop} {g : g_S} {n : NS} {m : YS} (hy : y) {xv1 : Int32} {v1 : Int} (ev1 : xv1 = Int32.ofInt v1) (rv1 : inR v1) (hR : RC w y g n m) : Rf (fun a b => RC w y a n b) (M_Y_lineThing 1838 xv1 g) (N_Y_lineThing v1 m) := by
  subst ev1
  unfold M_Y_lineThing N_Y_lineThing
  refine rf_bind (fL_Y_lineThing_2 hy rfl rv1 rfl rv1 hR) (fun a2 m1 h => ?_)
  have hR3 : RC w y a2 n m1 := h
  exact rf_ok (by exact hR3)
noncomputable def N_Y_heightOf (v1 : Int) (v2 : Int) (m : YS) : Option (Int) :=
  (N_Y_of v1 7 m).bind fun z2 =>
  if z2 = (-1) then
    (N_Y_edges v1 m).bind fun z7 =>
    ck (2 * z7) <|
    ck (v2 + (2 * z7)) <|
    some (v2 + (2 * z7))
  else
    (N_Y_of v1 7 m).bind fun z14 =>
    (N_Y_edges v1 m).bind fun z18 =>
    ck (2 * z18) <|
    some (max z14 (2 * z18))
theorem f_Y_heightOf {w y : Prop} {g : g_S} {n : NS} {m : YS} (hy : y) {xv1 : Int32} {v1 : Int} (ev1 : xv1 = Int32.ofInt v1) (rv1 : inR v1) {xv2 : Int32} {v2 : Int} (ev2 : xv2 = Int32.ofInt v2) (rv2 : inR v2) (hR : RC w y g n m) : Rf (fun a b => RI a b) (M_Y_heightOf 1838 xv1 xv2 g) (N_Y_heightOf v1 v2 m) := by
  subst ev1
  subst ev2
  unfold M_Y_heightOf N_Y_heightOf
  refine v_c (y_gt hR hy) ?_
  refine rf_bind (f_Y_of hy rfl rv1 (e_n 7) (show inR 7 by decide) hR) (fun a4 z2 h => ?_)
  obtain ⟨rfl, r3⟩ := h
  refine rf_eq rfl (e_m 1) r3 (show inR (-1) by decide) ?_ ?_
  · refine v_c (y_gt hR hy) ?_
    refine rf_bind (f_Y_edges hy rfl rv1 hR) (fun a9 z7 h => ?_)
    obtain ⟨rfl, r8⟩ := h
    refine rf_ck (fun h10 => ?_)
    refine rf_ck (fun h11 => ?_)
    exact rf_ok (by exact ⟨(e_add rfl (e_mul (e_n 2) rfl)), h11⟩)
  · refine v_c (y_gt hR hy) ?_
    refine rf_bind (f_Y_of hy rfl rv1 (e_n 7) (show inR 7 by decide) hR) (fun a16 z14 h => ?_)
    obtain ⟨rfl, r15⟩ := h
    refine v_c (y_gt hR hy) ?_
    refine rf_bind (f_Y_edges hy rfl rv1 hR) (fun a20 z18 h => ?_)
    obtain ⟨rfl, r19⟩ := h
    refine rf_ck (fun h21 => ?_)
    exact rf_ok (by exact ⟨(e_mx rfl (e_mul (e_n 2) rfl) r15 h21), (max_r r15 h21)⟩)
noncomputable def nb_Y_layBlock_205 (v1 : Int) (v5 : Int) (v7 : Int) (v8 : Int) (v11 : Int) (v12 : Int) (m : YS) : Option ((Int × Int) ⊕ (Int)) :=
  if v12 < (m 136 0) then
    ix v12 120 <|
    ck (v12 + 1) <|
    some (.inl (max v11 (m 140 v12), v12 + 1))
  else
    some (.inr v11)
theorem fb_Y_layBlock_205 {w y : Prop} {g : g_S} {n : NS} {m : YS} (hy : y) {xv1 : Int32} {v1 : Int} (ev1 : xv1 = Int32.ofInt v1) (rv1 : inR v1) {xv5 : Int32} {v5 : Int} (ev5 : xv5 = Int32.ofInt v5) (rv5 : inR v5) {xv7 : Int32} {v7 : Int} (ev7 : xv7 = Int32.ofInt v7) (rv7 : inR v7) {xv8 : Int32} {v8 : Int} (ev8 : xv8 = Int32.ofInt v8) (rv8 : inR v8) {xv11 : Int32} {v11 : Int} (ev11 : xv11 = Int32.ofInt v11) (rv11 : inR v11) {xv12 : Int32} {v12 : Int} (ev12 : xv12 = Int32.ofInt v12) (rv12 : inR v12) (hR : RC w y g n m) : Rf (RS (fun a b => RI a.1 b.1 ∧ RI a.2 b.2) (fun a b => RI a b)) (b_Y_layBlock_205 1838 xv1 xv5 xv7 xv8 xv11 xv12 g) (nb_Y_layBlock_205 v1 v5 v7 v8 v11 v12 m) := by
  subst ev1
  subst ev5
  subst ev7
  subst ev8
  subst ev11
  subst ev12
  unfold b_Y_layBlock_205 nb_Y_layBlock_205
  refine y_I hR hy yk136 yt136 (fun h1 => ?_)
  refine rf_lt rfl rfl rv12 h1 ?_ ?_
  · refine y_Q hR hy ya140.1 (by decide) ?_
    refine y_aI hR hy ya140 yl140 rfl rv12 (fun h4 h5 => ?_)
    refine rf_ck (fun h7 => ?_)
    exact rf_ok (by exact ⟨⟨(e_mx rfl rfl rv11 h5), (max_r rv11 h5)⟩, ⟨(e_add rfl (e_n 1)), h7⟩⟩)
  · exact rf_ok (by exact ⟨rfl, rv11⟩)
noncomputable def NL_Y_layBlock_205 (v1 : Int) (v5 : Int) (v7 : Int) (v8 : Int) (v11 : Int) (v12 : Int) (m : YS) : Option (Int) :=
  it (fun s : Int × Int => nb_Y_layBlock_205 v1 v5 v7 v8 s.1 s.2 m) (v11, v12)
theorem fL_Y_layBlock_205 {w y : Prop} {g : g_S} {n : NS} {m : YS} (hy : y) {xv1 : Int32} {v1 : Int} (ev1 : xv1 = Int32.ofInt v1) (rv1 : inR v1) {xv5 : Int32} {v5 : Int} (ev5 : xv5 = Int32.ofInt v5) (rv5 : inR v5) {xv7 : Int32} {v7 : Int} (ev7 : xv7 = Int32.ofInt v7) (rv7 : inR v7) {xv8 : Int32} {v8 : Int} (ev8 : xv8 = Int32.ofInt v8) (rv8 : inR v8) {xv11 : Int32} {v11 : Int} (ev11 : xv11 = Int32.ofInt v11) (rv11 : inR v11) {xv12 : Int32} {v12 : Int} (ev12 : xv12 = Int32.ofInt v12) (rv12 : inR v12) (hR : RC w y g n m) : Rf (fun a b => RI a b) (L_Y_layBlock_205 1838 xv1 xv5 xv7 xv8 xv11 xv12 g) (NL_Y_layBlock_205 v1 v5 v7 v8 v11 v12 m) := by
  subst ev1
  subst ev5
  subst ev7
  subst ev8
  subst ev11
  subst ev12
  unfold L_Y_layBlock_205 NL_Y_layBlock_205
  refine rf_it (I := (fun a b => RI a.1 b.1 ∧ RI a.2 b.2)) (fun s t h => ?_) ⟨⟨rfl, rv11⟩, ⟨rfl, rv12⟩⟩
  exact fb_Y_layBlock_205 hy rfl rv1 rfl rv5 rfl rv7 rfl rv8 h.1.1 h.1.2 h.2.1 h.2.2 hR
theorem NL_Y_layBlock_205_eq (v1 : Int) (v5 : Int) (v7 : Int) (v8 : Int) (v11 : Int) (v12 : Int) (m : YS) : NL_Y_layBlock_205 v1 v5 v7 v8 v11 v12 m = itc (nb_Y_layBlock_205 v1 v5 v7 v8 v11 v12 m) (fun s => NL_Y_layBlock_205 v1 v5 v7 v8 s.1 s.2 m) := it_eq2 (fun s : Int × Int => nb_Y_layBlock_205 v1 v5 v7 v8 s.1 s.2 m) (v11, v12)
noncomputable def nb_Y_layBlock_462 (v1 : Int) (v5 : Int) (v7 : Int) (v9 : Int) (m : YS) : Option ((Int × Int) ⊕ (Int)) :=
  if v9 < (m 136 0) then
    ix v9 120 <|
    ck (v9 + 1) <|
    some (.inl (max v7 (m 140 v9), v9 + 1))
  else
    some (.inr v7)
theorem fb_Y_layBlock_462 {w y : Prop} {g : g_S} {n : NS} {m : YS} (hy : y) {xv1 : Int32} {v1 : Int} (ev1 : xv1 = Int32.ofInt v1) (rv1 : inR v1) {xv5 : Int32} {v5 : Int} (ev5 : xv5 = Int32.ofInt v5) (rv5 : inR v5) {xv7 : Int32} {v7 : Int} (ev7 : xv7 = Int32.ofInt v7) (rv7 : inR v7) {xv9 : Int32} {v9 : Int} (ev9 : xv9 = Int32.ofInt v9) (rv9 : inR v9) (hR : RC w y g n m) : Rf (RS (fun a b => RI a.1 b.1 ∧ RI a.2 b.2) (fun a b => RI a b)) (b_Y_layBlock_462 1838 xv1 xv5 xv7 xv9 g) (nb_Y_layBlock_462 v1 v5 v7 v9 m) := by
  subst ev1
  subst ev5
  subst ev7
  subst ev9
  unfold b_Y_layBlock_462 nb_Y_layBlock_462
  refine y_I hR hy yk136 yt136 (fun h1 => ?_)
  refine rf_lt rfl rfl rv9 h1 ?_ ?_
  · refine y_Q hR hy ya140.1 (by decide) ?_
    refine y_aI hR hy ya140 yl140 rfl rv9 (fun h4 h5 => ?_)
    refine rf_ck (fun h7 => ?_)
    exact rf_ok (by exact ⟨⟨(e_mx rfl rfl rv7 h5), (max_r rv7 h5)⟩, ⟨(e_add rfl (e_n 1)), h7⟩⟩)
  · exact rf_ok (by exact ⟨rfl, rv7⟩)
noncomputable def NL_Y_layBlock_462 (v1 : Int) (v5 : Int) (v7 : Int) (v9 : Int) (m : YS) : Option (Int) :=
  it (fun s : Int × Int => nb_Y_layBlock_462 v1 v5 s.1 s.2 m) (v7, v9)
theorem fL_Y_layBlock_462 {w y : Prop} {g : g_S} {n : NS} {m : YS} (hy : y) {xv1 : Int32} {v1 : Int} (ev1 : xv1 = Int32.ofInt v1) (rv1 : inR v1) {xv5 : Int32} {v5 : Int} (ev5 : xv5 = Int32.ofInt v5) (rv5 : inR v5) {xv7 : Int32} {v7 : Int} (ev7 : xv7 = Int32.ofInt v7) (rv7 : inR v7) {xv9 : Int32} {v9 : Int} (ev9 : xv9 = Int32.ofInt v9) (rv9 : inR v9) (hR : RC w y g n m) : Rf (fun a b => RI a b) (L_Y_layBlock_462 1838 xv1 xv5 xv7 xv9 g) (NL_Y_layBlock_462 v1 v5 v7 v9 m) := by
  subst ev1
  subst ev5
  subst ev7
  subst ev9
  unfold L_Y_layBlock_462 NL_Y_layBlock_462
  refine rf_it (I := (fun a b => RI a.1 b.1 ∧ RI a.2 b.2)) (fun s t h => ?_) ⟨⟨rfl, rv7⟩, ⟨rfl, rv9⟩⟩
  exact fb_Y_layBlock_462 hy rfl rv1 rfl rv5 h.1.1 h.1.2 h.2.1 h.2.2 hR
theorem NL_Y_layBlock_462_eq (v1 : Int) (v5 : Int) (v7 : Int) (v9 : Int) (m : YS) : NL_Y_layBlock_462 v1 v5 v7 v9 m = itc (nb_Y_layBlock_462 v1 v5 v7 v9 m) (fun s => NL_Y_layBlock_462 v1 v5 s.1 s.2 m) := it_eq2 (fun s : Int × Int => nb_Y_layBlock_462 v1 v5 s.1 s.2 m) (v7, v9)
noncomputable def nb_Y_layBlock_512 (v1 : Int) (v5 : Int) (v9 : Int) (m : YS) : Option ((Int) ⊕ (Int)) :=
  if v9 = (-1) then
    some (.inr v9)
  else
    ix v9 120 <|
    if (m 107 v9) = 0 then
      ix v9 120 <|
      some (.inl (m 52 v9))
    else
      some (.inr v9)
theorem fb_Y_layBlock_512 {w y : Prop} {g : g_S} {n : NS} {m : YS} (hy : y) {xv1 : Int32} {v1 : Int} (ev1 : xv1 = Int32.ofInt v1) (rv1 : inR v1) {xv5 : Int32} {v5 : Int} (ev5 : xv5 = Int32.ofInt v5) (rv5 : inR v5) {xv9 : Int32} {v9 : Int} (ev9 : xv9 = Int32.ofInt v9) (rv9 : inR v9) (hR : RC w y g n m) : Rf (RS (fun a b => RI a b) (fun a b => RI a b)) (b_Y_layBlock_512 1838 xv1 xv5 xv9 g) (nb_Y_layBlock_512 v1 v5 v9 m) := by
  subst ev1
  subst ev5
  subst ev9
  unfold b_Y_layBlock_512 nb_Y_layBlock_512
  refine rf_eq rfl (e_m 1) rv9 (show inR (-1) by decide) ?_ ?_
  · exact rf_ok (by exact ⟨rfl, rv9⟩)
  · refine y_Q hR hy ya107.1 (by decide) ?_
    refine y_aI hR hy ya107 yl107 rfl rv9 (fun h3 h4 => ?_)
    refine rf_eq rfl (e_n 0) h4 (show inR 0 by decide) ?_ ?_
    · refine y_Q hR hy ya52.1 (by decide) ?_
      refine y_aI hR hy ya52 yl52 rfl rv9 (fun h7 h8 => ?_)
      exact rf_ok (by exact ⟨rfl, h8⟩)
    · exact rf_ok (by exact ⟨rfl, rv9⟩)
noncomputable def NL_Y_layBlock_512 (v1 : Int) (v5 : Int) (v9 : Int) (m : YS) : Option (Int) :=
  it (fun s : Int => nb_Y_layBlock_512 v1 v5 s m) (v9)
theorem fL_Y_layBlock_512 {w y : Prop} {g : g_S} {n : NS} {m : YS} (hy : y) {xv1 : Int32} {v1 : Int} (ev1 : xv1 = Int32.ofInt v1) (rv1 : inR v1) {xv5 : Int32} {v5 : Int} (ev5 : xv5 = Int32.ofInt v5) (rv5 : inR v5) {xv9 : Int32} {v9 : Int} (ev9 : xv9 = Int32.ofInt v9) (rv9 : inR v9) (hR : RC w y g n m) : Rf (fun a b => RI a b) (L_Y_layBlock_512 1838 xv1 xv5 xv9 g) (NL_Y_layBlock_512 v1 v5 v9 m) := by
  subst ev1
  subst ev5
  subst ev9
  unfold L_Y_layBlock_512 NL_Y_layBlock_512
  refine rf_it (I := (fun a b => RI a b)) (fun s t h => ?_) ⟨rfl, rv9⟩
  exact fb_Y_layBlock_512 hy rfl rv1 rfl rv5 h.1 h.2 hR
theorem NL_Y_layBlock_512_eq (v1 : Int) (v5 : Int) (v9 : Int) (m : YS) : NL_Y_layBlock_512 v1 v5 v9 m = itc (nb_Y_layBlock_512 v1 v5 v9 m) (fun s => NL_Y_layBlock_512 v1 v5 s m) := it_eq2 (fun s : Int => nb_Y_layBlock_512 v1 v5 s m) (v9)
noncomputable def nk_Y_layBlock_69 (v1 : Int) (v2 : Int) (v3 : Int) (v4 : Int) (v5 : Int) (v6 : Int) (v7 : Int) (v8 : Int) (m : YS) : Option ((Int × Int) ⊕ (Int)) :=
  ix v8 120 <|
  some (.inl (v5, (m 52 v8)))
theorem fk_Y_layBlock_69 {w y : Prop} {g : g_S} {n : NS} {m : YS} (hy : y) {xv1 : Int32} {v1 : Int} (ev1 : xv1 = Int32.ofInt v1) (rv1 : inR v1) {xv2 : Int32} {v2 : Int} (ev2 : xv2 = Int32.ofInt v2) (rv2 : inR v2) {xv3 : Int32} {v3 : Int} (ev3 : xv3 = Int32.ofInt v3) (rv3 : inR v3) {xv4 : Int32} {v4 : Int} (ev4 : xv4 = Int32.ofInt v4) (rv4 : inR v4) {xv5 : Int32} {v5 : Int} (ev5 : xv5 = Int32.ofInt v5) (rv5 : inR v5) {xv6 : Int32} {v6 : Int} (ev6 : xv6 = Int32.ofInt v6) (rv6 : inR v6) {xv7 : Int32} {v7 : Int} (ev7 : xv7 = Int32.ofInt v7) (rv7 : inR v7) {xv8 : Int32} {v8 : Int} (ev8 : xv8 = Int32.ofInt v8) (rv8 : inR v8) (hR : RC w y g n m) : Rf (RS (fun a b => RI a.1 b.1 ∧ RI a.2 b.2) (fun a b => RI a b)) (k_Y_layBlock_69 1838 xv1 xv2 xv3 xv4 xv5 xv6 xv7 xv8 g) (nk_Y_layBlock_69 v1 v2 v3 v4 v5 v6 v7 v8 m) := by
  subst ev1
  subst ev2
  subst ev3
  subst ev4
  subst ev5
  subst ev6
  subst ev7
  subst ev8
  unfold k_Y_layBlock_69 nk_Y_layBlock_69
  refine y_Q hR hy ya52.1 (by decide) ?_
  refine y_aI hR hy ya52 yl52 rfl rv8 (fun h2 h3 => ?_)
  exact rf_ok (by exact ⟨⟨rfl, rv5⟩, ⟨rfl, h3⟩⟩)
noncomputable def nb_Y_layBlock_49 (v1 : Int) (v2 : Int) (v3 : Int) (v4 : Int) (v6 : Int) (v7 : Int) (v5 : Int) (v8 : Int) (m : YS) : Option ((Int × Int) ⊕ (Int)) :=
  if v8 = (-1) then
    some (.inr v5)
  else
    ix v8 120 <|
    if (m 107 v8) = 0 then
      nk_Y_layBlock_69 v1 v2 v3 v4 v5 v6 v7 v8 m
    else
      nk_Y_layBlock_69 v1 v2 v3 v4 v8 v6 v7 v8 m
theorem fb_Y_layBlock_49 {w y : Prop} {g : g_S} {n : NS} {m : YS} (hy : y) {xv1 : Int32} {v1 : Int} (ev1 : xv1 = Int32.ofInt v1) (rv1 : inR v1) {xv2 : Int32} {v2 : Int} (ev2 : xv2 = Int32.ofInt v2) (rv2 : inR v2) {xv3 : Int32} {v3 : Int} (ev3 : xv3 = Int32.ofInt v3) (rv3 : inR v3) {xv4 : Int32} {v4 : Int} (ev4 : xv4 = Int32.ofInt v4) (rv4 : inR v4) {xv6 : Int32} {v6 : Int} (ev6 : xv6 = Int32.ofInt v6) (rv6 : inR v6) {xv7 : Int32} {v7 : Int} (ev7 : xv7 = Int32.ofInt v7) (rv7 : inR v7) {xv5 : Int32} {v5 : Int} (ev5 : xv5 = Int32.ofInt v5) (rv5 : inR v5) {xv8 : Int32} {v8 : Int} (ev8 : xv8 = Int32.ofInt v8) (rv8 : inR v8) (hR : RC w y g n m) : Rf (RS (fun a b => RI a.1 b.1 ∧ RI a.2 b.2) (fun a b => RI a b)) (b_Y_layBlock_49 1838 xv1 xv2 xv3 xv4 xv6 xv7 xv5 xv8 g) (nb_Y_layBlock_49 v1 v2 v3 v4 v6 v7 v5 v8 m) := by
  subst ev1
  subst ev2
  subst ev3
  subst ev4
  subst ev6
  subst ev7
  subst ev5
  subst ev8
  unfold b_Y_layBlock_49 nb_Y_layBlock_49
  refine rf_eq rfl (e_m 1) rv8 (show inR (-1) by decide) ?_ ?_
  · exact rf_ok (by exact ⟨rfl, rv5⟩)
  · refine y_Q hR hy ya107.1 (by decide) ?_
    refine y_aI hR hy ya107 yl107 rfl rv8 (fun h3 h4 => ?_)
    refine rf_eq rfl (e_n 0) h4 (show inR 0 by decide) ?_ ?_
    · exact fk_Y_layBlock_69 hy rfl rv1 rfl rv2 rfl rv3 rfl rv4 rfl rv5 rfl rv6 rfl rv7 rfl rv8 hR
    · exact fk_Y_layBlock_69 hy rfl rv1 rfl rv2 rfl rv3 rfl rv4 rfl rv8 rfl rv6 rfl rv7 rfl rv8 hR
noncomputable def NL_Y_layBlock_49 (v1 : Int) (v2 : Int) (v3 : Int) (v4 : Int) (v6 : Int) (v7 : Int) (v5 : Int) (v8 : Int) (m : YS) : Option (Int) :=
  it (fun s : Int × Int => nb_Y_layBlock_49 v1 v2 v3 v4 v6 v7 s.1 s.2 m) (v5, v8)
theorem fL_Y_layBlock_49 {w y : Prop} {g : g_S} {n : NS} {m : YS} (hy : y) {xv1 : Int32} {v1 : Int} (ev1 : xv1 = Int32.ofInt v1) (rv1 : inR v1) {xv2 : Int32} {v2 : Int} (ev2 : xv2 = Int32.ofInt v2) (rv2 : inR v2) {xv3 : Int32} {v3 : Int} (ev3 : xv3 = Int32.ofInt v3) (rv3 : inR v3) {xv4 : Int32} {v4 : Int} (ev4 : xv4 = Int32.ofInt v4) (rv4 : inR v4) {xv6 : Int32} {v6 : Int} (ev6 : xv6 = Int32.ofInt v6) (rv6 : inR v6) {xv7 : Int32} {v7 : Int} (ev7 : xv7 = Int32.ofInt v7) (rv7 : inR v7) {xv5 : Int32} {v5 : Int} (ev5 : xv5 = Int32.ofInt v5) (rv5 : inR v5) {xv8 : Int32} {v8 : Int} (ev8 : xv8 = Int32.ofInt v8) (rv8 : inR v8) (hR : RC w y g n m) : Rf (fun a b => RI a b) (L_Y_layBlock_49 1838 xv1 xv2 xv3 xv4 xv6 xv7 xv5 xv8 g) (NL_Y_layBlock_49 v1 v2 v3 v4 v6 v7 v5 v8 m) := by
  subst ev1
  subst ev2
  subst ev3
  subst ev4
  subst ev6
  subst ev7
  subst ev5
  subst ev8
  unfold L_Y_layBlock_49 NL_Y_layBlock_49
  refine rf_it (I := (fun a b => RI a.1 b.1 ∧ RI a.2 b.2)) (fun s t h => ?_) ⟨⟨rfl, rv5⟩, ⟨rfl, rv8⟩⟩
  exact fb_Y_layBlock_49 hy rfl rv1 rfl rv2 rfl rv3 rfl rv4 rfl rv6 rfl rv7 h.1.1 h.1.2 h.2.1 h.2.2 hR
theorem NL_Y_layBlock_49_eq (v1 : Int) (v2 : Int) (v3 : Int) (v4 : Int) (v6 : Int) (v7 : Int) (v5 : Int) (v8 : Int) (m : YS) : NL_Y_layBlock_49 v1 v2 v3 v4 v6 v7 v5 v8 m = itc (nb_Y_layBlock_49 v1 v2 v3 v4 v6 v7 v5 v8 m) (fun s => NL_Y_layBlock_49 v1 v2 v3 v4 v6 v7 s.1 s.2 m) := it_eq2 (fun s : Int × Int => nb_Y_layBlock_49 v1 v2 v3 v4 v6 v7 s.1 s.2 m) (v5, v8)
noncomputable def nk_Y_layBlock_415 (v1 : Int) (v4 : Int) (v5 : Int) (v7 : Int) (v8 : Int) (m : YS) : Option ((Int × YS) ⊕ (Int × YS)) :=
  ix v8 120 <|
  some (.inl ((m 52 v8), m))
theorem fk_Y_layBlock_415 {w y : Prop} {g : g_S} {n : NS} {m : YS} (hy : y) {xv1 : Int32} {v1 : Int} (ev1 : xv1 = Int32.ofInt v1) (rv1 : inR v1) {xv4 : Int32} {v4 : Int} (ev4 : xv4 = Int32.ofInt v4) (rv4 : inR v4) {xv5 : Int32} {v5 : Int} (ev5 : xv5 = Int32.ofInt v5) (rv5 : inR v5) {xv7 : Int32} {v7 : Int} (ev7 : xv7 = Int32.ofInt v7) (rv7 : inR v7) {xv8 : Int32} {v8 : Int} (ev8 : xv8 = Int32.ofInt v8) (rv8 : inR v8) (hR : RC w y g n m) : Rf (RS (fun a b => RI a.1 b.1 ∧ RC w y a.2 n b.2) (fun a b => RI a.1 b.1 ∧ RC w y a.2 n b.2)) (k_Y_layBlock_415 1838 xv1 xv4 xv5 xv7 xv8 g) (nk_Y_layBlock_415 v1 v4 v5 v7 v8 m) := by
  subst ev1
  subst ev4
  subst ev5
  subst ev7
  subst ev8
  unfold k_Y_layBlock_415 nk_Y_layBlock_415
  refine y_Q hR hy ya52.1 (by decide) ?_
  refine y_aI hR hy ya52 yl52 rfl rv8 (fun h2 h3 => ?_)
  exact rf_ok (by exact ⟨⟨rfl, h3⟩, hR⟩)
noncomputable def nk_Y_layBlock_399 (v1 : Int) (v4 : Int) (v5 : Int) (v7 : Int) (v8 : Int) (m : YS) : Option ((Int × YS) ⊕ (Int × YS)) :=
  ix v8 120 <|
  if (m 107 v8) = 0 then
    nk_Y_layBlock_415 v1 v4 v5 v7 v8 m
  else
    (N_Y_lineThing v8 m).bind fun m6 =>
    nk_Y_layBlock_415 v1 v4 v5 v7 v8 m6
theorem fk_Y_layBlock_399 {w y : Prop} {g : g_S} {n : NS} {m : YS} (hy : y) {xv1 : Int32} {v1 : Int} (ev1 : xv1 = Int32.ofInt v1) (rv1 : inR v1) {xv4 : Int32} {v4 : Int} (ev4 : xv4 = Int32.ofInt v4) (rv4 : inR v4) {xv5 : Int32} {v5 : Int} (ev5 : xv5 = Int32.ofInt v5) (rv5 : inR v5) {xv7 : Int32} {v7 : Int} (ev7 : xv7 = Int32.ofInt v7) (rv7 : inR v7) {xv8 : Int32} {v8 : Int} (ev8 : xv8 = Int32.ofInt v8) (rv8 : inR v8) (hR : RC w y g n m) : Rf (RS (fun a b => RI a.1 b.1 ∧ RC w y a.2 n b.2) (fun a b => RI a.1 b.1 ∧ RC w y a.2 n b.2)) (k_Y_layBlock_399 1838 xv1 xv4 xv5 xv7 xv8 g) (nk_Y_layBlock_399 v1 v4 v5 v7 v8 m) := by
  subst ev1
  subst ev4
  subst ev5
  subst ev7
  subst ev8
  unfold k_Y_layBlock_399 nk_Y_layBlock_399
  refine y_Q hR hy ya107.1 (by decide) ?_
  refine y_aI hR hy ya107 yl107 rfl rv8 (fun h2 h3 => ?_)
  refine rf_eq rfl (e_n 0) h3 (show inR 0 by decide) ?_ ?_
  · exact fk_Y_layBlock_415 hy rfl rv1 rfl rv4 rfl rv5 rfl rv7 rfl rv8 hR
  · refine v_c (y_gt hR hy) ?_
    refine rf_bind (f_Y_lineThing hy rfl rv8 hR) (fun g8 m6 hR7 => ?_)
    exact fk_Y_layBlock_415 hy rfl rv1 rfl rv4 rfl rv5 rfl rv7 rfl rv8 hR7
noncomputable def nb_Y_layBlock_374 (v1 : Int) (v4 : Int) (v5 : Int) (v7 : Int) (v8 : Int) (m : YS) : Option ((Int × YS) ⊕ (Int × YS)) :=
  if v8 = (-1) then
    some (.inr (v8, m))
  else
    (N_Y_isBox v8 m).bind fun z3 =>
    if z3 = 0 then
      nk_Y_layBlock_399 v1 v4 v5 v7 v8 m
    else
      ix v8 120 <|
      if (m 108 v8) = 0 then
        some (.inr (v8, m))
      else
        nk_Y_layBlock_399 v1 v4 v5 v7 v8 m
theorem fb_Y_layBlock_374 {w y : Prop} {g : g_S} {n : NS} {m : YS} (hy : y) {xv1 : Int32} {v1 : Int} (ev1 : xv1 = Int32.ofInt v1) (rv1 : inR v1) {xv4 : Int32} {v4 : Int} (ev4 : xv4 = Int32.ofInt v4) (rv4 : inR v4) {xv5 : Int32} {v5 : Int} (ev5 : xv5 = Int32.ofInt v5) (rv5 : inR v5) {xv7 : Int32} {v7 : Int} (ev7 : xv7 = Int32.ofInt v7) (rv7 : inR v7) {xv8 : Int32} {v8 : Int} (ev8 : xv8 = Int32.ofInt v8) (rv8 : inR v8) (hR : RC w y g n m) : Rf (RS (fun a b => RI a.1 b.1 ∧ RC w y a.2 n b.2) (fun a b => RI a.1 b.1 ∧ RC w y a.2 n b.2)) (b_Y_layBlock_374 1838 xv1 xv4 xv5 xv7 xv8 g) (nb_Y_layBlock_374 v1 v4 v5 v7 v8 m) := by
  subst ev1
  subst ev4
  subst ev5
  subst ev7
  subst ev8
  unfold b_Y_layBlock_374 nb_Y_layBlock_374
  refine rf_eq rfl (e_m 1) rv8 (show inR (-1) by decide) ?_ ?_
  · exact rf_ok (by exact ⟨⟨rfl, rv8⟩, hR⟩)
  · refine v_c (y_gt hR hy) ?_
    refine rf_bind (f_Y_isBox hy rfl rv8 hR) (fun a5 z3 h => ?_)
    obtain ⟨rfl, r4⟩ := h
    refine rf_eq rfl (e_n 0) (inZ.r r4) (show inR 0 by decide) ?_ ?_
    · exact fk_Y_layBlock_399 hy rfl rv1 rfl rv4 rfl rv5 rfl rv7 rfl rv8 hR
    · refine y_Q hR hy ya108.1 (by decide) ?_
      refine y_aZ hR hy ya108 yl108 rfl rv8 (fun h8 h9 => ?_)
      refine rf_eq rfl (e_n 0) (inZ.r h9) (show inR 0 by decide) ?_ ?_
      · exact rf_ok (by exact ⟨⟨rfl, rv8⟩, hR⟩)
      · exact fk_Y_layBlock_399 hy rfl rv1 rfl rv4 rfl rv5 rfl rv7 rfl rv8 hR
noncomputable def NL_Y_layBlock_374 (v1 : Int) (v4 : Int) (v5 : Int) (v7 : Int) (v8 : Int) (m : YS) : Option (Int × YS) :=
  it (fun s : Int × YS => nb_Y_layBlock_374 v1 v4 v5 v7 s.1 s.2) (v8, m)
theorem fL_Y_layBlock_374 {w y : Prop} {g : g_S} {n : NS} {m : YS} (hy : y) {xv1 : Int32} {v1 : Int} (ev1 : xv1 = Int32.ofInt v1) (rv1 : inR v1) {xv4 : Int32} {v4 : Int} (ev4 : xv4 = Int32.ofInt v4) (rv4 : inR v4) {xv5 : Int32} {v5 : Int} (ev5 : xv5 = Int32.ofInt v5) (rv5 : inR v5) {xv7 : Int32} {v7 : Int} (ev7 : xv7 = Int32.ofInt v7) (rv7 : inR v7) {xv8 : Int32} {v8 : Int} (ev8 : xv8 = Int32.ofInt v8) (rv8 : inR v8) (hR : RC w y g n m) : Rf (fun a b => RI a.1 b.1 ∧ RC w y a.2 n b.2) (L_Y_layBlock_374 1838 xv1 xv4 xv5 xv7 xv8 g) (NL_Y_layBlock_374 v1 v4 v5 v7 v8 m) := by
  subst ev1
  subst ev4
  subst ev5
  subst ev7
  subst ev8
  unfold L_Y_layBlock_374 NL_Y_layBlock_374
  refine rf_it (I := (fun a b => RI a.1 b.1 ∧ RC w y a.2 n b.2)) (fun s t h => ?_) ⟨⟨rfl, rv8⟩, hR⟩
  exact fb_Y_layBlock_374 hy rfl rv1 rfl rv4 rfl rv5 rfl rv7 h.1.1 h.1.2 h.2
theorem NL_Y_layBlock_374_eq (v1 : Int) (v4 : Int) (v5 : Int) (v7 : Int) (v8 : Int) (m : YS) : NL_Y_layBlock_374 v1 v4 v5 v7 v8 m = itc (nb_Y_layBlock_374 v1 v4 v5 v7 v8 m) (fun s => NL_Y_layBlock_374 v1 v4 v5 v7 s.1 s.2) := it_eq2 (fun s : Int × YS => nb_Y_layBlock_374 v1 v4 v5 v7 s.1 s.2) (v8, m)
noncomputable def nk_Y_layBlock_438 (v1 : Int) (v4 : Int) (v5 : Int) (v7 : Int) (v8 : Int) (m : YS) : Option ((Int × Int × Int × Int × Int × Int × YS) ⊕ (Int × Int × YS)) :=
  some (.inl ((m 127 0), (-1), v4, 0, v7, v8, m))
theorem fk_Y_layBlock_438 {w y : Prop} {g : g_S} {n : NS} {m : YS} (hy : y) {xv1 : Int32} {v1 : Int} (ev1 : xv1 = Int32.ofInt v1) (rv1 : inR v1) {xv4 : Int32} {v4 : Int} (ev4 : xv4 = Int32.ofInt v4) (rv4 : inR v4) {xv5 : Int32} {v5 : Int} (ev5 : xv5 = Int32.ofInt v5) (rv5 : inR v5) {xv7 : Int32} {v7 : Int} (ev7 : xv7 = Int32.ofInt v7) (rv7 : inR v7) {xv8 : Int32} {v8 : Int} (ev8 : xv8 = Int32.ofInt v8) (rv8 : inR v8) (hR : RC w y g n m) : Rf (RS (fun a b => RI a.1 b.1 ∧ RI a.2.1 b.2.1 ∧ RI a.2.2.1 b.2.2.1 ∧ RI a.2.2.2.1 b.2.2.2.1 ∧ RI a.2.2.2.2.1 b.2.2.2.2.1 ∧ RI a.2.2.2.2.2.1 b.2.2.2.2.2.1 ∧ RC w y a.2.2.2.2.2.2 n b.2.2.2.2.2.2) (fun a b => RI a.1 b.1 ∧ RI a.2.1 b.2.1 ∧ RC w y a.2.2 n b.2.2)) (k_Y_layBlock_438 1838 xv1 xv4 xv5 xv7 xv8 g) (nk_Y_layBlock_438 v1 v4 v5 v7 v8 m) := by
  subst ev1
  subst ev4
  subst ev5
  subst ev7
  subst ev8
  unfold k_Y_layBlock_438 nk_Y_layBlock_438
  refine y_I hR hy yk127 yt127 (fun h1 => ?_)
  exact rf_ok (by exact ⟨⟨rfl, h1⟩, ⟨(e_m 1), (show inR (-1) by decide)⟩, ⟨rfl, rv4⟩, ⟨(e_n 0), (show inR 0 by decide)⟩, ⟨rfl, rv7⟩, ⟨rfl, rv8⟩, hR⟩)
noncomputable def nk_Y_layBlock_427 (v1 : Int) (v4 : Int) (v5 : Int) (v7 : Int) (v8 : Int) (m : YS) : Option ((Int × Int × Int × Int × Int × Int × YS) ⊕ (Int × Int × YS)) :=
  if 0 < (m 131 0) then
    (N_Y_endLine m).bind fun m4 =>
    nk_Y_layBlock_438 v1 v4 v5 v7 v8 m4
  else
    nk_Y_layBlock_438 v1 v4 v5 v7 v8 m
theorem fk_Y_layBlock_427 {w y : Prop} {g : g_S} {n : NS} {m : YS} (hy : y) {xv1 : Int32} {v1 : Int} (ev1 : xv1 = Int32.ofInt v1) (rv1 : inR v1) {xv4 : Int32} {v4 : Int} (ev4 : xv4 = Int32.ofInt v4) (rv4 : inR v4) {xv5 : Int32} {v5 : Int} (ev5 : xv5 = Int32.ofInt v5) (rv5 : inR v5) {xv7 : Int32} {v7 : Int} (ev7 : xv7 = Int32.ofInt v7) (rv7 : inR v7) {xv8 : Int32} {v8 : Int} (ev8 : xv8 = Int32.ofInt v8) (rv8 : inR v8) (hR : RC w y g n m) : Rf (RS (fun a b => RI a.1 b.1 ∧ RI a.2.1 b.2.1 ∧ RI a.2.2.1 b.2.2.1 ∧ RI a.2.2.2.1 b.2.2.2.1 ∧ RI a.2.2.2.2.1 b.2.2.2.2.1 ∧ RI a.2.2.2.2.2.1 b.2.2.2.2.2.1 ∧ RC w y a.2.2.2.2.2.2 n b.2.2.2.2.2.2) (fun a b => RI a.1 b.1 ∧ RI a.2.1 b.2.1 ∧ RC w y a.2.2 n b.2.2)) (k_Y_layBlock_427 1838 xv1 xv4 xv5 xv7 xv8 g) (nk_Y_layBlock_427 v1 v4 v5 v7 v8 m) := by
  subst ev1
  subst ev4
  subst ev5
  subst ev7
  subst ev8
  unfold k_Y_layBlock_427 nk_Y_layBlock_427
  refine y_I hR hy yk131 yt131 (fun h1 => ?_)
  refine rf_lt (e_n 0) rfl (show inR 0 by decide) h1 ?_ ?_
  · refine v_c (y_gt hR hy) ?_
    refine rf_bind (f_Y_endLine hy hR) (fun g6 m4 hR5 => ?_)
    exact fk_Y_layBlock_438 hy rfl rv1 rfl rv4 rfl rv5 rfl rv7 rfl rv8 hR5
  · exact fk_Y_layBlock_438 hy rfl rv1 rfl rv4 rfl rv5 rfl rv7 rfl rv8 hR
noncomputable def nk_Y_layBlock_351 (v1 : Int) (v4 : Int) (v5 : Int) (v7 : Int) (v8 : Int) (w0 : Int) (m : YS) : Option ((Int × Int × Int × Int × Int × Int × YS) ⊕ (Int × Int × YS)) :=
  st (yw m 127 0 w0) fun m2 =>
  st (yw m2 131 0 0) fun m6 =>
  st (yw m6 132 0 0) fun m10 =>
  st (yw m10 143 0 0) fun m14 =>
  st (yw m14 144 0 0) fun m18 =>
  (NL_Y_layBlock_374 v1 v4 v5 v7 v8 m18).bind <| u2 fun z21 m22 =>
  nk_Y_layBlock_427 v1 v4 v5 v7 z21 m22
theorem fk_Y_layBlock_351 {w y : Prop} {g : g_S} {n : NS} {m : YS} (hy : y) {xv1 : Int32} {v1 : Int} (ev1 : xv1 = Int32.ofInt v1) (rv1 : inR v1) {xv4 : Int32} {v4 : Int} (ev4 : xv4 = Int32.ofInt v4) (rv4 : inR v4) {xv5 : Int32} {v5 : Int} (ev5 : xv5 = Int32.ofInt v5) (rv5 : inR v5) {xv7 : Int32} {v7 : Int} (ev7 : xv7 = Int32.ofInt v7) (rv7 : inR v7) {xv8 : Int32} {v8 : Int} (ev8 : xv8 = Int32.ofInt v8) (rv8 : inR v8) {xw0 : Int32} {w0 : Int} (ew0 : xw0 = Int32.ofInt w0) (rw0 : inR w0) (hR : RC w y g n m) : Rf (RS (fun a b => RI a.1 b.1 ∧ RI a.2.1 b.2.1 ∧ RI a.2.2.1 b.2.2.1 ∧ RI a.2.2.2.1 b.2.2.2.1 ∧ RI a.2.2.2.2.1 b.2.2.2.2.1 ∧ RI a.2.2.2.2.2.1 b.2.2.2.2.2.1 ∧ RC w y a.2.2.2.2.2.2 n b.2.2.2.2.2.2) (fun a b => RI a.1 b.1 ∧ RI a.2.1 b.2.1 ∧ RC w y a.2.2 n b.2.2)) (k_Y_layBlock_351 1838 xv1 xv4 xv5 xv7 xv8 xw0 1838 g) (nk_Y_layBlock_351 v1 v4 v5 v7 v8 w0 m) := by
  subst ev1
  subst ev4
  subst ev5
  subst ev7
  subst ev8
  subst ew0
  unfold k_Y_layBlock_351 nk_Y_layBlock_351
  refine y_pI hR hy yk127 ⟨yt127, yz127⟩ rfl rw0 (fun g4 m2 hR3 => ?_)
  refine y_pI hR3 hy yk131 ⟨yt131, yz131⟩ (e_n 0) (show inR 0 by decide) (fun g8 m6 hR7 => ?_)
  refine y_pI hR7 hy yk132 ⟨yt132, yz132⟩ (e_n 0) (show inR 0 by decide) (fun g12 m10 hR11 => ?_)
  refine y_pI hR11 hy yk143 ⟨yt143, yz143⟩ (e_n 0) (show inR 0 by decide) (fun g16 m14 hR15 => ?_)
  refine y_pZ hR15 hy yk144 yt144 (e_n 0) (.inl rfl) (fun g20 m18 hR19 => ?_)
  refine rf_bind (fL_Y_layBlock_374 hy rfl rv1 rfl rv4 rfl rv5 rfl rv7 rfl rv8 hR19) (fun a b h => ?_)
  obtain ⟨a23, a24⟩ := a
  obtain ⟨z21, m22⟩ := b
  refine rf_u2 ?_
  obtain ⟨rfl, r26⟩ := (show RI a23 z21 from h.1)
  have hR25 : RC w y a24 n m22 := h.2
  exact fk_Y_layBlock_427 hy rfl rv1 rfl rv4 rfl rv5 rfl rv7 rfl r26 hR25
noncomputable def nk_Y_layBlock_332 (v1 : Int) (v2 : Int) (v3 : Int) (v4 : Int) (v5 : Int) (v7 : Int) (v8 : Int) (m : YS) : Option ((Int × Int × Int × Int × Int × Int × YS) ⊕ (Int × Int × YS)) :=
  if v3 = (-1) then
    nk_Y_layBlock_351 v1 v4 v5 v7 v8 v2 m
  else
    ix v3 120 <|
    ck (v4 + (m 115 v3)) <|
    nk_Y_layBlock_351 v1 v4 v5 v7 v8 (v4 + (m 115 v3)) m
theorem fk_Y_layBlock_332 {w y : Prop} {g : g_S} {n : NS} {m : YS} (hy : y) {xv1 : Int32} {v1 : Int} (ev1 : xv1 = Int32.ofInt v1) (rv1 : inR v1) {xv2 : Int32} {v2 : Int} (ev2 : xv2 = Int32.ofInt v2) (rv2 : inR v2) {xv3 : Int32} {v3 : Int} (ev3 : xv3 = Int32.ofInt v3) (rv3 : inR v3) {xv4 : Int32} {v4 : Int} (ev4 : xv4 = Int32.ofInt v4) (rv4 : inR v4) {xv5 : Int32} {v5 : Int} (ev5 : xv5 = Int32.ofInt v5) (rv5 : inR v5) {xv7 : Int32} {v7 : Int} (ev7 : xv7 = Int32.ofInt v7) (rv7 : inR v7) {xv8 : Int32} {v8 : Int} (ev8 : xv8 = Int32.ofInt v8) (rv8 : inR v8) (hR : RC w y g n m) : Rf (RS (fun a b => RI a.1 b.1 ∧ RI a.2.1 b.2.1 ∧ RI a.2.2.1 b.2.2.1 ∧ RI a.2.2.2.1 b.2.2.2.1 ∧ RI a.2.2.2.2.1 b.2.2.2.2.1 ∧ RI a.2.2.2.2.2.1 b.2.2.2.2.2.1 ∧ RC w y a.2.2.2.2.2.2 n b.2.2.2.2.2.2) (fun a b => RI a.1 b.1 ∧ RI a.2.1 b.2.1 ∧ RC w y a.2.2 n b.2.2)) (k_Y_layBlock_332 1838 xv1 xv2 xv3 xv4 xv5 xv7 xv8 g) (nk_Y_layBlock_332 v1 v2 v3 v4 v5 v7 v8 m) := by
  subst ev1
  subst ev2
  subst ev3
  subst ev4
  subst ev5
  subst ev7
  subst ev8
  unfold k_Y_layBlock_332 nk_Y_layBlock_332
  refine rf_eq rfl (e_m 1) rv3 (show inR (-1) by decide) ?_ ?_
  · exact fk_Y_layBlock_351 hy rfl rv1 rfl rv4 rfl rv5 rfl rv7 rfl rv8 rfl rv2 hR
  · refine y_Q hR hy ya115.1 (by decide) ?_
    refine y_aI hR hy ya115 yl115 rfl rv3 (fun h3 h4 => ?_)
    refine rf_ck (fun h5 => ?_)
    exact fk_Y_layBlock_351 hy rfl rv1 rfl rv4 rfl rv5 rfl rv7 rfl rv8 (e_add rfl rfl) h5 hR
noncomputable def nk_Y_layBlock_314 (v1 : Int) (v2 : Int) (v3 : Int) (v4 : Int) (v5 : Int) (v8 : Int) (w0 : Int) (w1 : Int) (w2 : Int) (m : YS) : Option ((Int × Int × Int × Int × Int × Int × YS) ⊕ (Int × Int × YS)) :=
  ck (w1 + w0) <|
  ix v8 120 <|
  some (.inl (v2, v3, v4, 0, max w2 (w1 + w0), (m 52 v8), m))
theorem fk_Y_layBlock_314 {w y : Prop} {g : g_S} {n : NS} {m : YS} (hy : y) {xv1 : Int32} {v1 : Int} (ev1 : xv1 = Int32.ofInt v1) (rv1 : inR v1) {xv2 : Int32} {v2 : Int} (ev2 : xv2 = Int32.ofInt v2) (rv2 : inR v2) {xv3 : Int32} {v3 : Int} (ev3 : xv3 = Int32.ofInt v3) (rv3 : inR v3) {xv4 : Int32} {v4 : Int} (ev4 : xv4 = Int32.ofInt v4) (rv4 : inR v4) {xv5 : Int32} {v5 : Int} (ev5 : xv5 = Int32.ofInt v5) (rv5 : inR v5) {xv8 : Int32} {v8 : Int} (ev8 : xv8 = Int32.ofInt v8) (rv8 : inR v8) {xw0 : Int32} {w0 : Int} (ew0 : xw0 = Int32.ofInt w0) (rw0 : inR w0) {xw1 : Int32} {w1 : Int} (ew1 : xw1 = Int32.ofInt w1) (rw1 : inR w1) {xw2 : Int32} {w2 : Int} (ew2 : xw2 = Int32.ofInt w2) (rw2 : inR w2) (hR : RC w y g n m) : Rf (RS (fun a b => RI a.1 b.1 ∧ RI a.2.1 b.2.1 ∧ RI a.2.2.1 b.2.2.1 ∧ RI a.2.2.2.1 b.2.2.2.1 ∧ RI a.2.2.2.2.1 b.2.2.2.2.1 ∧ RI a.2.2.2.2.2.1 b.2.2.2.2.2.1 ∧ RC w y a.2.2.2.2.2.2 n b.2.2.2.2.2.2) (fun a b => RI a.1 b.1 ∧ RI a.2.1 b.2.1 ∧ RC w y a.2.2 n b.2.2)) (k_Y_layBlock_314 1838 xv1 xv2 xv3 xv4 xv5 xv8 xw0 xw1 xw2 g) (nk_Y_layBlock_314 v1 v2 v3 v4 v5 v8 w0 w1 w2 m) := by
  subst ev1
  subst ev2
  subst ev3
  subst ev4
  subst ev5
  subst ev8
  subst ew0
  subst ew1
  subst ew2
  unfold k_Y_layBlock_314 nk_Y_layBlock_314
  refine rf_ck (fun h1 => ?_)
  refine y_Q hR hy ya52.1 (by decide) ?_
  refine y_aI hR hy ya52 yl52 rfl rv8 (fun h4 h5 => ?_)
  exact rf_ok (by exact ⟨⟨rfl, rv2⟩, ⟨rfl, rv3⟩, ⟨rfl, rv4⟩, ⟨(e_n 0), (show inR 0 by decide)⟩, ⟨(e_mx rfl (e_add rfl rfl) rw2 h1), (max_r rw2 h1)⟩, ⟨rfl, h5⟩, hR⟩)
noncomputable def nk_Y_layBlock_307 (v1 : Int) (v2 : Int) (v3 : Int) (v4 : Int) (v5 : Int) (v8 : Int) (w0 : Int) (w1 : Int) (m : YS) : Option ((Int × Int × Int × Int × Int × Int × YS) ⊕ (Int × Int × YS)) :=
  ix v8 120 <|
  nk_Y_layBlock_314 v1 v2 v3 v4 v5 v8 (m 115 v8) w0 w1 m
theorem fk_Y_layBlock_307 {w y : Prop} {g : g_S} {n : NS} {m : YS} (hy : y) {xv1 : Int32} {v1 : Int} (ev1 : xv1 = Int32.ofInt v1) (rv1 : inR v1) {xv2 : Int32} {v2 : Int} (ev2 : xv2 = Int32.ofInt v2) (rv2 : inR v2) {xv3 : Int32} {v3 : Int} (ev3 : xv3 = Int32.ofInt v3) (rv3 : inR v3) {xv4 : Int32} {v4 : Int} (ev4 : xv4 = Int32.ofInt v4) (rv4 : inR v4) {xv5 : Int32} {v5 : Int} (ev5 : xv5 = Int32.ofInt v5) (rv5 : inR v5) {xv8 : Int32} {v8 : Int} (ev8 : xv8 = Int32.ofInt v8) (rv8 : inR v8) {xw0 : Int32} {w0 : Int} (ew0 : xw0 = Int32.ofInt w0) (rw0 : inR w0) {xw1 : Int32} {w1 : Int} (ew1 : xw1 = Int32.ofInt w1) (rw1 : inR w1) (hR : RC w y g n m) : Rf (RS (fun a b => RI a.1 b.1 ∧ RI a.2.1 b.2.1 ∧ RI a.2.2.1 b.2.2.1 ∧ RI a.2.2.2.1 b.2.2.2.1 ∧ RI a.2.2.2.2.1 b.2.2.2.2.1 ∧ RI a.2.2.2.2.2.1 b.2.2.2.2.2.1 ∧ RC w y a.2.2.2.2.2.2 n b.2.2.2.2.2.2) (fun a b => RI a.1 b.1 ∧ RI a.2.1 b.2.1 ∧ RC w y a.2.2 n b.2.2)) (k_Y_layBlock_307 1838 xv1 xv2 xv3 xv4 xv5 xv8 xw0 xw1 g) (nk_Y_layBlock_307 v1 v2 v3 v4 v5 v8 w0 w1 m) := by
  subst ev1
  subst ev2
  subst ev3
  subst ev4
  subst ev5
  subst ev8
  subst ew0
  subst ew1
  unfold k_Y_layBlock_307 nk_Y_layBlock_307
  refine y_Q hR hy ya115.1 (by decide) ?_
  refine y_aI hR hy ya115 yl115 rfl rv8 (fun h2 h3 => ?_)
  exact fk_Y_layBlock_314 hy rfl rv1 rfl rv2 rfl rv3 rfl rv4 rfl rv5 rfl rv8 rfl h3 rfl rw0 rfl rw1 hR
noncomputable def nk_Y_layBlock_200 (v1 : Int) (v5 : Int) (v7 : Int) (v8 : Int) (w0 : Int) (m : YS) : Option ((Int × Int × Int × Int × Int × Int × YS) ⊕ (Int × Int × YS)) :=
  (NL_Y_layBlock_205 v1 v5 v7 v8 w0 0 m).bind <| fun z1 =>
  (N_Y_of v8 3 m).bind fun z6 =>
  ix v8 120 <|
  st (yw m 110 v8 z6) fun m10 =>
  ix v8 120 <|
  st (yw m10 111 v8 z1) fun m15 =>
  ix v8 120 <|
  ck (z1 + (m15 113 v8)) <|
  if v8 = v5 then
    (N_Y_joins v1 m15).bind fun z24 =>
    if z24 = 0 then
      nk_Y_layBlock_307 v1 (z1 + (m15 113 v8)) v8 (z1 + (m15 113 v8)) v5 v8 (z1 + (m15 113 v8)) v7 m15
    else
      (N_Y_of v1 7 m15).bind fun z29 =>
      if z29 = (-1) then
        nk_Y_layBlock_314 v1 (z1 + (m15 113 v8)) v8 (z1 + (m15 113 v8)) v5 v8 0 (z1 + (m15 113 v8)) v7 m15
      else
        nk_Y_layBlock_307 v1 (z1 + (m15 113 v8)) v8 (z1 + (m15 113 v8)) v5 v8 (z1 + (m15 113 v8)) v7 m15
  else
    nk_Y_layBlock_307 v1 (z1 + (m15 113 v8)) v8 (z1 + (m15 113 v8)) v5 v8 (z1 + (m15 113 v8)) v7 m15
theorem fk_Y_layBlock_200 {w y : Prop} {g : g_S} {n : NS} {m : YS} (hy : y) {xv1 : Int32} {v1 : Int} (ev1 : xv1 = Int32.ofInt v1) (rv1 : inR v1) {xv5 : Int32} {v5 : Int} (ev5 : xv5 = Int32.ofInt v5) (rv5 : inR v5) {xv7 : Int32} {v7 : Int} (ev7 : xv7 = Int32.ofInt v7) (rv7 : inR v7) {xv8 : Int32} {v8 : Int} (ev8 : xv8 = Int32.ofInt v8) (rv8 : inR v8) {xw0 : Int32} {w0 : Int} (ew0 : xw0 = Int32.ofInt w0) (rw0 : inR w0) (hR : RC w y g n m) : Rf (RS (fun a b => RI a.1 b.1 ∧ RI a.2.1 b.2.1 ∧ RI a.2.2.1 b.2.2.1 ∧ RI a.2.2.2.1 b.2.2.2.1 ∧ RI a.2.2.2.2.1 b.2.2.2.2.1 ∧ RI a.2.2.2.2.2.1 b.2.2.2.2.2.1 ∧ RC w y a.2.2.2.2.2.2 n b.2.2.2.2.2.2) (fun a b => RI a.1 b.1 ∧ RI a.2.1 b.2.1 ∧ RC w y a.2.2 n b.2.2)) (k_Y_layBlock_200 1838 xv1 xv5 xv7 xv8 xw0 g) (nk_Y_layBlock_200 v1 v5 v7 v8 w0 m) := by
  subst ev1
  subst ev5
  subst ev7
  subst ev8
  subst ew0
  unfold k_Y_layBlock_200 nk_Y_layBlock_200
  refine rf_bind (fL_Y_layBlock_205 hy rfl rv1 rfl rv5 rfl rv7 rfl rv8 rfl rw0 (e_n 0) (show inR 0 by decide) hR) (fun a2 z1 h => ?_)
  obtain ⟨rfl, r3⟩ := (show RI a2 z1 from h)
  refine y_Q hR hy ya110.1 (by decide) ?_
  refine v_c (y_gt hR hy) ?_
  refine rf_bind (f_Y_of hy rfl rv8 (e_n 3) (show inR 3 by decide) hR) (fun a8 z6 h => ?_)
  obtain ⟨rfl, r7⟩ := h
  refine y_sI hR hy ya110 yl110 rfl rv8 rfl r7 (fun g12 m10 hR11 => ?_)
  refine y_Q hR11 hy ya111.1 (by decide) ?_
  refine y_sI hR11 hy ya111 yl111 rfl rv8 rfl r3 (fun g17 m15 hR16 => ?_)
  refine y_Q hR16 hy ya113.1 (by decide) ?_
  refine y_aI hR16 hy ya113 yl113 rfl rv8 (fun h19 h20 => ?_)
  refine rf_ck (fun h21 => ?_)
  refine rf_eq rfl rfl rv8 rv5 ?_ ?_
  · refine v_c (y_gt hR16 hy) ?_
    refine rf_bind (f_Y_joins hy rfl rv1 hR16) (fun a26 z24 h => ?_)
    obtain ⟨rfl, r25⟩ := h
    refine rf_eq rfl (e_n 0) (inZ.r r25) (show inR 0 by decide) ?_ ?_
    · exact fk_Y_layBlock_307 hy rfl rv1 (e_add rfl rfl) h21 rfl rv8 (e_add rfl rfl) h21 rfl rv5 rfl rv8 (e_add rfl rfl) h21 rfl rv7 hR16
    · refine v_c (y_gt hR16 hy) ?_
      refine rf_bind (f_Y_of hy rfl rv1 (e_n 7) (show inR 7 by decide) hR16) (fun a31 z29 h => ?_)
      obtain ⟨rfl, r30⟩ := h
      refine rf_eq rfl (e_m 1) r30 (show inR (-1) by decide) ?_ ?_
      · exact fk_Y_layBlock_314 hy rfl rv1 (e_add rfl rfl) h21 rfl rv8 (e_add rfl rfl) h21 rfl rv5 rfl rv8 (e_n 0) (show inR 0 by decide) (e_add rfl rfl) h21 rfl rv7 hR16
      · exact fk_Y_layBlock_307 hy rfl rv1 (e_add rfl rfl) h21 rfl rv8 (e_add rfl rfl) h21 rfl rv5 rfl rv8 (e_add rfl rfl) h21 rfl rv7 hR16
  · exact fk_Y_layBlock_307 hy rfl rv1 (e_add rfl rfl) h21 rfl rv8 (e_add rfl rfl) h21 rfl rv5 rfl rv8 (e_add rfl rfl) h21 rfl rv7 hR16
noncomputable def nk_Y_layBlock_172 (v1 : Int) (v2 : Int) (v3 : Int) (v4 : Int) (v5 : Int) (v7 : Int) (v8 : Int) (w0 : Int) (m : YS) : Option ((Int × Int × Int × Int × Int × Int × YS) ⊕ (Int × Int × YS)) :=
  if v3 = (-1) then
    ck (v2 + w0) <|
    nk_Y_layBlock_200 v1 v5 v7 v8 (v2 + w0) m
  else
    ix v3 120 <|
    ck (v4 + (max (m 115 v3) w0)) <|
    nk_Y_layBlock_200 v1 v5 v7 v8 (v4 + (max (m 115 v3) w0)) m
theorem fk_Y_layBlock_172 {w y : Prop} {g : g_S} {n : NS} {m : YS} (hy : y) {xv1 : Int32} {v1 : Int} (ev1 : xv1 = Int32.ofInt v1) (rv1 : inR v1) {xv2 : Int32} {v2 : Int} (ev2 : xv2 = Int32.ofInt v2) (rv2 : inR v2) {xv3 : Int32} {v3 : Int} (ev3 : xv3 = Int32.ofInt v3) (rv3 : inR v3) {xv4 : Int32} {v4 : Int} (ev4 : xv4 = Int32.ofInt v4) (rv4 : inR v4) {xv5 : Int32} {v5 : Int} (ev5 : xv5 = Int32.ofInt v5) (rv5 : inR v5) {xv7 : Int32} {v7 : Int} (ev7 : xv7 = Int32.ofInt v7) (rv7 : inR v7) {xv8 : Int32} {v8 : Int} (ev8 : xv8 = Int32.ofInt v8) (rv8 : inR v8) {xw0 : Int32} {w0 : Int} (ew0 : xw0 = Int32.ofInt w0) (rw0 : inR w0) (hR : RC w y g n m) : Rf (RS (fun a b => RI a.1 b.1 ∧ RI a.2.1 b.2.1 ∧ RI a.2.2.1 b.2.2.1 ∧ RI a.2.2.2.1 b.2.2.2.1 ∧ RI a.2.2.2.2.1 b.2.2.2.2.1 ∧ RI a.2.2.2.2.2.1 b.2.2.2.2.2.1 ∧ RC w y a.2.2.2.2.2.2 n b.2.2.2.2.2.2) (fun a b => RI a.1 b.1 ∧ RI a.2.1 b.2.1 ∧ RC w y a.2.2 n b.2.2)) (k_Y_layBlock_172 1838 xv1 xv2 xv3 xv4 xv5 xv7 xv8 xw0 g) (nk_Y_layBlock_172 v1 v2 v3 v4 v5 v7 v8 w0 m) := by
  subst ev1
  subst ev2
  subst ev3
  subst ev4
  subst ev5
  subst ev7
  subst ev8
  subst ew0
  unfold k_Y_layBlock_172 nk_Y_layBlock_172
  refine rf_eq rfl (e_m 1) rv3 (show inR (-1) by decide) ?_ ?_
  · refine rf_ck (fun h2 => ?_)
    exact fk_Y_layBlock_200 hy rfl rv1 rfl rv5 rfl rv7 rfl rv8 (e_add rfl rfl) h2 hR
  · refine y_Q hR hy ya115.1 (by decide) ?_
    refine y_aI hR hy ya115 yl115 rfl rv3 (fun h4 h5 => ?_)
    refine rf_ck (fun h7 => ?_)
    exact fk_Y_layBlock_200 hy rfl rv1 rfl rv5 rfl rv7 rfl rv8 (e_add rfl (e_mx rfl rfl h5 rw0)) h7 hR
noncomputable def nk_Y_layBlock_154 (v1 : Int) (v2 : Int) (v3 : Int) (v4 : Int) (v5 : Int) (v7 : Int) (v8 : Int) (w0 : Int) (m : YS) : Option ((Int × Int × Int × Int × Int × Int × YS) ⊕ (Int × Int × YS)) :=
  if w0 = 0 then
    ix v8 120 <|
    nk_Y_layBlock_172 v1 v2 v3 v4 v5 v7 v8 (m 114 v8) m
  else
    nk_Y_layBlock_172 v1 v2 v3 v4 v5 v7 v8 0 m
theorem fk_Y_layBlock_154 {w y : Prop} {g : g_S} {n : NS} {m : YS} (hy : y) {xv1 : Int32} {v1 : Int} (ev1 : xv1 = Int32.ofInt v1) (rv1 : inR v1) {xv2 : Int32} {v2 : Int} (ev2 : xv2 = Int32.ofInt v2) (rv2 : inR v2) {xv3 : Int32} {v3 : Int} (ev3 : xv3 = Int32.ofInt v3) (rv3 : inR v3) {xv4 : Int32} {v4 : Int} (ev4 : xv4 = Int32.ofInt v4) (rv4 : inR v4) {xv5 : Int32} {v5 : Int} (ev5 : xv5 = Int32.ofInt v5) (rv5 : inR v5) {xv7 : Int32} {v7 : Int} (ev7 : xv7 = Int32.ofInt v7) (rv7 : inR v7) {xv8 : Int32} {v8 : Int} (ev8 : xv8 = Int32.ofInt v8) (rv8 : inR v8) {xw0 : Int32} {w0 : Int} (ew0 : xw0 = Int32.ofInt w0) (rw0 : inR w0) (hR : RC w y g n m) : Rf (RS (fun a b => RI a.1 b.1 ∧ RI a.2.1 b.2.1 ∧ RI a.2.2.1 b.2.2.1 ∧ RI a.2.2.2.1 b.2.2.2.1 ∧ RI a.2.2.2.2.1 b.2.2.2.2.1 ∧ RI a.2.2.2.2.2.1 b.2.2.2.2.2.1 ∧ RC w y a.2.2.2.2.2.2 n b.2.2.2.2.2.2) (fun a b => RI a.1 b.1 ∧ RI a.2.1 b.2.1 ∧ RC w y a.2.2 n b.2.2)) (k_Y_layBlock_154 1838 xv1 xv2 xv3 xv4 xv5 xv7 xv8 xw0 g) (nk_Y_layBlock_154 v1 v2 v3 v4 v5 v7 v8 w0 m) := by
  subst ev1
  subst ev2
  subst ev3
  subst ev4
  subst ev5
  subst ev7
  subst ev8
  subst ew0
  unfold k_Y_layBlock_154 nk_Y_layBlock_154
  refine rf_eq rfl (e_n 0) rw0 (show inR 0 by decide) ?_ ?_
  · refine y_Q hR hy ya114.1 (by decide) ?_
    refine y_aI hR hy ya114 yl114 rfl rv8 (fun h3 h4 => ?_)
    exact fk_Y_layBlock_172 hy rfl rv1 rfl rv2 rfl rv3 rfl rv4 rfl rv5 rfl rv7 rfl rv8 rfl h4 hR
  · exact fk_Y_layBlock_172 hy rfl rv1 rfl rv2 rfl rv3 rfl rv4 rfl rv5 rfl rv7 rfl rv8 (e_n 0) (show inR 0 by decide) hR
noncomputable def nk_Y_layBlock_153 (v1 : Int) (v2 : Int) (v3 : Int) (v4 : Int) (v5 : Int) (v7 : Int) (v8 : Int) (m : YS) : Option ((Int × Int × Int × Int × Int × Int × YS) ⊕ (Int × Int × YS)) :=
  nk_Y_layBlock_154 v1 v2 v3 v4 v5 v7 v8 0 m
theorem fk_Y_layBlock_153 {w y : Prop} {g : g_S} {n : NS} {m : YS} (hy : y) {xv1 : Int32} {v1 : Int} (ev1 : xv1 = Int32.ofInt v1) (rv1 : inR v1) {xv2 : Int32} {v2 : Int} (ev2 : xv2 = Int32.ofInt v2) (rv2 : inR v2) {xv3 : Int32} {v3 : Int} (ev3 : xv3 = Int32.ofInt v3) (rv3 : inR v3) {xv4 : Int32} {v4 : Int} (ev4 : xv4 = Int32.ofInt v4) (rv4 : inR v4) {xv5 : Int32} {v5 : Int} (ev5 : xv5 = Int32.ofInt v5) (rv5 : inR v5) {xv7 : Int32} {v7 : Int} (ev7 : xv7 = Int32.ofInt v7) (rv7 : inR v7) {xv8 : Int32} {v8 : Int} (ev8 : xv8 = Int32.ofInt v8) (rv8 : inR v8) (hR : RC w y g n m) : Rf (RS (fun a b => RI a.1 b.1 ∧ RI a.2.1 b.2.1 ∧ RI a.2.2.1 b.2.2.1 ∧ RI a.2.2.2.1 b.2.2.2.1 ∧ RI a.2.2.2.2.1 b.2.2.2.2.1 ∧ RI a.2.2.2.2.2.1 b.2.2.2.2.2.1 ∧ RC w y a.2.2.2.2.2.2 n b.2.2.2.2.2.2) (fun a b => RI a.1 b.1 ∧ RI a.2.1 b.2.1 ∧ RC w y a.2.2 n b.2.2)) (k_Y_layBlock_153 1838 xv1 xv2 xv3 xv4 xv5 xv7 xv8 g) (nk_Y_layBlock_153 v1 v2 v3 v4 v5 v7 v8 m) := by
  subst ev1
  subst ev2
  subst ev3
  subst ev4
  subst ev5
  subst ev7
  subst ev8
  unfold k_Y_layBlock_153 nk_Y_layBlock_153
  exact fk_Y_layBlock_154 hy rfl rv1 rfl rv2 rfl rv3 rfl rv4 rfl rv5 rfl rv7 rfl rv8 (e_n 0) (show inR 0 by decide) hR
noncomputable def nb_Y_layBlock_89 (v1 : Int) (v5 : Int) (v2 : Int) (v3 : Int) (v4 : Int) (v6 : Int) (v7 : Int) (v8 : Int) (m : YS) : Option ((Int × Int × Int × Int × Int × Int × YS) ⊕ (Int × Int × YS)) :=
  if v8 = (-1) then
    some (.inr (v2, v7, m))
  else
    ix v8 120 <|
    if (m 107 v8) = 0 then
      ix v8 120 <|
      some (.inl (v2, v3, v4, v6, v7, (m 52 v8), m))
    else
      (N_Y_isBox v8 m).bind fun z10 =>
      if z10 = 0 then
        nk_Y_layBlock_332 v1 v2 v3 v4 v5 v7 v8 m
      else
        ix v8 120 <|
        if (m 108 v8) = 0 then
          if v6 = 0 then
            nk_Y_layBlock_153 v1 v2 v3 v4 v5 v7 v8 m
          else
            (N_Y_joins v1 m).bind fun z20 =>
            if z20 = 0 then
              nk_Y_layBlock_153 v1 v2 v3 v4 v5 v7 v8 m
            else
              nk_Y_layBlock_154 v1 v2 v3 v4 v5 v7 v8 1 m
        else
          nk_Y_layBlock_332 v1 v2 v3 v4 v5 v7 v8 m
theorem fb_Y_layBlock_89 {w y : Prop} {g : g_S} {n : NS} {m : YS} (hy : y) {xv1 : Int32} {v1 : Int} (ev1 : xv1 = Int32.ofInt v1) (rv1 : inR v1) {xv5 : Int32} {v5 : Int} (ev5 : xv5 = Int32.ofInt v5) (rv5 : inR v5) {xv2 : Int32} {v2 : Int} (ev2 : xv2 = Int32.ofInt v2) (rv2 : inR v2) {xv3 : Int32} {v3 : Int} (ev3 : xv3 = Int32.ofInt v3) (rv3 : inR v3) {xv4 : Int32} {v4 : Int} (ev4 : xv4 = Int32.ofInt v4) (rv4 : inR v4) {xv6 : Int32} {v6 : Int} (ev6 : xv6 = Int32.ofInt v6) (rv6 : inR v6) {xv7 : Int32} {v7 : Int} (ev7 : xv7 = Int32.ofInt v7) (rv7 : inR v7) {xv8 : Int32} {v8 : Int} (ev8 : xv8 = Int32.ofInt v8) (rv8 : inR v8) (hR : RC w y g n m) : Rf (RS (fun a b => RI a.1 b.1 ∧ RI a.2.1 b.2.1 ∧ RI a.2.2.1 b.2.2.1 ∧ RI a.2.2.2.1 b.2.2.2.1 ∧ RI a.2.2.2.2.1 b.2.2.2.2.1 ∧ RI a.2.2.2.2.2.1 b.2.2.2.2.2.1 ∧ RC w y a.2.2.2.2.2.2 n b.2.2.2.2.2.2) (fun a b => RI a.1 b.1 ∧ RI a.2.1 b.2.1 ∧ RC w y a.2.2 n b.2.2)) (b_Y_layBlock_89 1838 xv1 xv5 xv2 xv3 xv4 xv6 xv7 xv8 g) (nb_Y_layBlock_89 v1 v5 v2 v3 v4 v6 v7 v8 m) := by
  subst ev1
  subst ev5
  subst ev2
  subst ev3
  subst ev4
  subst ev6
  subst ev7
  subst ev8
  unfold b_Y_layBlock_89 nb_Y_layBlock_89
  refine rf_eq rfl (e_m 1) rv8 (show inR (-1) by decide) ?_ ?_
  · exact rf_ok (by exact ⟨⟨rfl, rv2⟩, ⟨rfl, rv7⟩, hR⟩)
  · refine y_Q hR hy ya107.1 (by decide) ?_
    refine y_aI hR hy ya107 yl107 rfl rv8 (fun h3 h4 => ?_)
    refine rf_eq rfl (e_n 0) h4 (show inR 0 by decide) ?_ ?_
    · refine y_Q hR hy ya52.1 (by decide) ?_
      refine y_aI hR hy ya52 yl52 rfl rv8 (fun h7 h8 => ?_)
      exact rf_ok (by exact ⟨⟨rfl, rv2⟩, ⟨rfl, rv3⟩, ⟨rfl, rv4⟩, ⟨rfl, rv6⟩, ⟨rfl, rv7⟩, ⟨rfl, h8⟩, hR⟩)
    · refine v_c (y_gt hR hy) ?_
      refine rf_bind (f_Y_isBox hy rfl rv8 hR) (fun a12 z10 h => ?_)
      obtain ⟨rfl, r11⟩ := h
      refine rf_eq rfl (e_n 0) (inZ.r r11) (show inR 0 by decide) ?_ ?_
      · exact fk_Y_layBlock_332 hy rfl rv1 rfl rv2 rfl rv3 rfl rv4 rfl rv5 rfl rv7 rfl rv8 hR
      · refine y_Q hR hy ya108.1 (by decide) ?_
        refine y_aZ hR hy ya108 yl108 rfl rv8 (fun h15 h16 => ?_)
        refine rf_eq rfl (e_n 0) (inZ.r h16) (show inR 0 by decide) ?_ ?_
        · refine rf_eq rfl (e_n 0) rv6 (show inR 0 by decide) ?_ ?_
          · exact fk_Y_layBlock_153 hy rfl rv1 rfl rv2 rfl rv3 rfl rv4 rfl rv5 rfl rv7 rfl rv8 hR
          · refine v_c (y_gt hR hy) ?_
            refine rf_bind (f_Y_joins hy rfl rv1 hR) (fun a22 z20 h => ?_)
            obtain ⟨rfl, r21⟩ := h
            refine rf_eq rfl (e_n 0) (inZ.r r21) (show inR 0 by decide) ?_ ?_
            · exact fk_Y_layBlock_153 hy rfl rv1 rfl rv2 rfl rv3 rfl rv4 rfl rv5 rfl rv7 rfl rv8 hR
            · exact fk_Y_layBlock_154 hy rfl rv1 rfl rv2 rfl rv3 rfl rv4 rfl rv5 rfl rv7 rfl rv8 (e_n 1) (show inR 1 by decide) hR
        · exact fk_Y_layBlock_332 hy rfl rv1 rfl rv2 rfl rv3 rfl rv4 rfl rv5 rfl rv7 rfl rv8 hR
noncomputable def NL_Y_layBlock_89 (v1 : Int) (v5 : Int) (v2 : Int) (v3 : Int) (v4 : Int) (v6 : Int) (v7 : Int) (v8 : Int) (m : YS) : Option (Int × Int × YS) :=
  it (fun s : Int × Int × Int × Int × Int × Int × YS => nb_Y_layBlock_89 v1 v5 s.1 s.2.1 s.2.2.1 s.2.2.2.1 s.2.2.2.2.1 s.2.2.2.2.2.1 s.2.2.2.2.2.2) (v2, v3, v4, v6, v7, v8, m)
theorem fL_Y_layBlock_89 {w y : Prop} {g : g_S} {n : NS} {m : YS} (hy : y) {xv1 : Int32} {v1 : Int} (ev1 : xv1 = Int32.ofInt v1) (rv1 : inR v1) {xv5 : Int32} {v5 : Int} (ev5 : xv5 = Int32.ofInt v5) (rv5 : inR v5) {xv2 : Int32} {v2 : Int} (ev2 : xv2 = Int32.ofInt v2) (rv2 : inR v2) {xv3 : Int32} {v3 : Int} (ev3 : xv3 = Int32.ofInt v3) (rv3 : inR v3) {xv4 : Int32} {v4 : Int} (ev4 : xv4 = Int32.ofInt v4) (rv4 : inR v4) {xv6 : Int32} {v6 : Int} (ev6 : xv6 = Int32.ofInt v6) (rv6 : inR v6) {xv7 : Int32} {v7 : Int} (ev7 : xv7 = Int32.ofInt v7) (rv7 : inR v7) {xv8 : Int32} {v8 : Int} (ev8 : xv8 = Int32.ofInt v8) (rv8 : inR v8) (hR : RC w y g n m) : Rf (fun a b => RI a.1 b.1 ∧ RI a.2.1 b.2.1 ∧ RC w y a.2.2 n b.2.2) (L_Y_layBlock_89 1838 xv1 xv5 xv2 xv3 xv4 xv6 xv7 xv8 g) (NL_Y_layBlock_89 v1 v5 v2 v3 v4 v6 v7 v8 m) := by
  subst ev1
  subst ev5
  subst ev2
  subst ev3
  subst ev4
  subst ev6
  subst ev7
  subst ev8
  unfold L_Y_layBlock_89 NL_Y_layBlock_89
  refine rf_it (I := (fun a b => RI a.1 b.1 ∧ RI a.2.1 b.2.1 ∧ RI a.2.2.1 b.2.2.1 ∧ RI a.2.2.2.1 b.2.2.2.1 ∧ RI a.2.2.2.2.1 b.2.2.2.2.1 ∧ RI a.2.2.2.2.2.1 b.2.2.2.2.2.1 ∧ RC w y a.2.2.2.2.2.2 n b.2.2.2.2.2.2)) (fun s t h => ?_) ⟨⟨rfl, rv2⟩, ⟨rfl, rv3⟩, ⟨rfl, rv4⟩, ⟨rfl, rv6⟩, ⟨rfl, rv7⟩, ⟨rfl, rv8⟩, hR⟩
  exact fb_Y_layBlock_89 hy rfl rv1 rfl rv5 h.1.1 h.1.2 h.2.1.1 h.2.1.2 h.2.2.1.1 h.2.2.1.2 h.2.2.2.1.1 h.2.2.2.1.2 h.2.2.2.2.1.1 h.2.2.2.2.1.2 h.2.2.2.2.2.1.1 h.2.2.2.2.2.1.2 h.2.2.2.2.2.2
theorem NL_Y_layBlock_89_eq (v1 : Int) (v5 : Int) (v2 : Int) (v3 : Int) (v4 : Int) (v6 : Int) (v7 : Int) (v8 : Int) (m : YS) : NL_Y_layBlock_89 v1 v5 v2 v3 v4 v6 v7 v8 m = itc (nb_Y_layBlock_89 v1 v5 v2 v3 v4 v6 v7 v8 m) (fun s => NL_Y_layBlock_89 v1 v5 s.1 s.2.1 s.2.2.1 s.2.2.2.1 s.2.2.2.2.1 s.2.2.2.2.2.1 s.2.2.2.2.2.2) := it_eq2 (fun s : Int × Int × Int × Int × Int × Int × YS => nb_Y_layBlock_89 v1 v5 s.1 s.2.1 s.2.2.1 s.2.2.2.1 s.2.2.2.2.1 s.2.2.2.2.2.1 s.2.2.2.2.2.2) (v2, v3, v4, v6, v7, v8, m)
noncomputable def nk_Y_layBlock_620 (v1 : Int) (v5 : Int) (m : YS) : Option (YS) :=
  (N_Y_isBox v5 m).bind fun z2 =>
  if z2 = 0 then
    some m
  else
    ix v5 120 <|
    if (m 108 v5) = 0 then
      (N_Y_of v1 7 m).bind fun z12 =>
      if z12 = (-1) then
        ix v1 120 <|
        ix v5 120 <|
        ix v1 120 <|
        st (yw m 115 v1 (max (m 115 v1) (m 115 v5))) fun m25 =>
        some m25
      else
        some m
    else
      some m
theorem fk_Y_layBlock_620 {w y : Prop} {g : g_S} {n : NS} {m : YS} (hy : y) {xv1 : Int32} {v1 : Int} (ev1 : xv1 = Int32.ofInt v1) (rv1 : inR v1) {xv5 : Int32} {v5 : Int} (ev5 : xv5 = Int32.ofInt v5) (rv5 : inR v5) (hR : RC w y g n m) : Rf (fun a b => RC w y a n b) (k_Y_layBlock_620 1838 xv1 xv5 g) (nk_Y_layBlock_620 v1 v5 m) := by
  subst ev1
  subst ev5
  unfold k_Y_layBlock_620 nk_Y_layBlock_620
  refine v_c (y_gt hR hy) ?_
  refine rf_bind (f_Y_isBox hy rfl rv5 hR) (fun a4 z2 h => ?_)
  obtain ⟨rfl, r3⟩ := h
  refine rf_eq rfl (e_n 0) (inZ.r r3) (show inR 0 by decide) ?_ ?_
  · exact rf_ok (by exact hR)
  · refine y_Q hR hy ya108.1 (by decide) ?_
    refine y_aZ hR hy ya108 yl108 rfl rv5 (fun h8 h9 => ?_)
    refine rf_eq rfl (e_n 0) (inZ.r h9) (show inR 0 by decide) ?_ ?_
    · refine v_c (y_gt hR hy) ?_
      refine rf_bind (f_Y_of hy rfl rv1 (e_n 7) (show inR 7 by decide) hR) (fun a14 z12 h => ?_)
      obtain ⟨rfl, r13⟩ := h
      refine rf_eq rfl (e_m 1) r13 (show inR (-1) by decide) ?_ ?_
      · refine y_Q hR hy ya115.1 (by decide) ?_
        refine y_Q hR hy ya115.1 (by decide) ?_
        refine y_aI hR hy ya115 yl115 rfl rv1 (fun h18 h19 => ?_)
        refine y_Q hR hy ya115.1 (by decide) ?_
        refine y_aI hR hy ya115 yl115 rfl rv5 (fun h21 h22 => ?_)
        refine y_sI hR hy ya115 yl115 rfl rv1 (e_mx rfl rfl h19 h22) (max_r h19 h22) (fun g27 m25 hR26 => ?_)
        exact rf_ok (by exact hR26)
      · exact rf_ok (by exact hR)
    · exact rf_ok (by exact hR)
noncomputable def nk_Y_layBlock_540 (v1 : Int) (v5 : Int) (v9 : Int) (m : YS) : Option (YS) :=
  (N_Y_of v1 3 m).bind fun z3 =>
  ix v1 120 <|
  st (yw m 114 v1 z3) fun m7 =>
  (N_Y_of v1 3 m7).bind fun z12 =>
  ix v1 120 <|
  st (yw m7 115 v1 z12) fun m16 =>
  (N_Y_joins v1 m16).bind fun z20 =>
  if z20 = 0 then
    some m16
  else
    if v9 = (-1) then
      some m16
    else
      (N_Y_isBox v9 m16).bind fun z28 =>
      if z28 = 0 then
        nk_Y_layBlock_620 v1 v5 m16
      else
        ix v9 120 <|
        if (m16 108 v9) = 0 then
          ix v1 120 <|
          ix v9 120 <|
          ix v1 120 <|
          st (yw m16 114 v1 (max (m16 114 v1) (m16 114 v9))) fun m45 =>
          nk_Y_layBlock_620 v1 v5 m45
        else
          nk_Y_layBlock_620 v1 v5 m16
theorem fk_Y_layBlock_540 {w y : Prop} {g : g_S} {n : NS} {m : YS} (hy : y) {xv1 : Int32} {v1 : Int} (ev1 : xv1 = Int32.ofInt v1) (rv1 : inR v1) {xv5 : Int32} {v5 : Int} (ev5 : xv5 = Int32.ofInt v5) (rv5 : inR v5) {xv9 : Int32} {v9 : Int} (ev9 : xv9 = Int32.ofInt v9) (rv9 : inR v9) (hR : RC w y g n m) : Rf (fun a b => RC w y a n b) (k_Y_layBlock_540 1838 xv1 xv5 xv9 g) (nk_Y_layBlock_540 v1 v5 v9 m) := by
  subst ev1
  subst ev5
  subst ev9
  unfold k_Y_layBlock_540 nk_Y_layBlock_540
  refine y_Q hR hy ya114.1 (by decide) ?_
  refine v_c (y_gt hR hy) ?_
  refine rf_bind (f_Y_of hy rfl rv1 (e_n 3) (show inR 3 by decide) hR) (fun a5 z3 h => ?_)
  obtain ⟨rfl, r4⟩ := h
  refine y_sI hR hy ya114 yl114 rfl rv1 rfl r4 (fun g9 m7 hR8 => ?_)
  refine y_Q hR8 hy ya115.1 (by decide) ?_
  refine v_c (y_gt hR8 hy) ?_
  refine rf_bind (f_Y_of hy rfl rv1 (e_n 3) (show inR 3 by decide) hR8) (fun a14 z12 h => ?_)
  obtain ⟨rfl, r13⟩ := h
  refine y_sI hR8 hy ya115 yl115 rfl rv1 rfl r13 (fun g18 m16 hR17 => ?_)
  refine v_c (y_gt hR17 hy) ?_
  refine rf_bind (f_Y_joins hy rfl rv1 hR17) (fun a22 z20 h => ?_)
  obtain ⟨rfl, r21⟩ := h
  refine rf_eq rfl (e_n 0) (inZ.r r21) (show inR 0 by decide) ?_ ?_
  · exact rf_ok (by exact hR17)
  · refine rf_eq rfl (e_m 1) rv9 (show inR (-1) by decide) ?_ ?_
    · exact rf_ok (by exact hR17)
    · refine v_c (y_gt hR17 hy) ?_
      refine rf_bind (f_Y_isBox hy rfl rv9 hR17) (fun a30 z28 h => ?_)
      obtain ⟨rfl, r29⟩ := h
      refine rf_eq rfl (e_n 0) (inZ.r r29) (show inR 0 by decide) ?_ ?_
      · exact fk_Y_layBlock_620 hy rfl rv1 rfl rv5 hR17
      · refine y_Q hR17 hy ya108.1 (by decide) ?_
        refine y_aZ hR17 hy ya108 yl108 rfl rv9 (fun h33 h34 => ?_)
        refine rf_eq rfl (e_n 0) (inZ.r h34) (show inR 0 by decide) ?_ ?_
        · refine y_Q hR17 hy ya114.1 (by decide) ?_
          refine y_Q hR17 hy ya114.1 (by decide) ?_
          refine y_aI hR17 hy ya114 yl114 rfl rv1 (fun h38 h39 => ?_)
          refine y_Q hR17 hy ya114.1 (by decide) ?_
          refine y_aI hR17 hy ya114 yl114 rfl rv9 (fun h41 h42 => ?_)
          refine y_sI hR17 hy ya114 yl114 rfl rv1 (e_mx rfl rfl h39 h42) (max_r h39 h42) (fun g47 m45 hR46 => ?_)
          exact fk_Y_layBlock_620 hy rfl rv1 rfl rv5 hR46
        · exact fk_Y_layBlock_620 hy rfl rv1 rfl rv5 hR17
noncomputable def N_Y_layBlock (v1 : Int) (m : YS) : Option (YS) :=
  (N_Y_inner v1 m).bind fun z2 =>
  st (yw m 145 0 z2) fun m6 =>
  (N_Y_of v1 9 m6).bind fun z10 =>
  st (yw m6 133 0 z10) fun m14 =>
  st (yw m14 136 0 0) fun m18 =>
  ix v1 120 <|
  (NL_Y_layBlock_49 v1 0 (-1) 0 1 0 (-1) (m18 50 v1) m18).bind <| fun z24 =>
  ix v1 120 <|
  (NL_Y_layBlock_89 v1 z24 0 (-1) 0 1 0 (m18 50 v1) m18).bind <| u3 fun z30 z31 m32 =>
  (NL_Y_layBlock_462 v1 z24 (max z31 z30) 0 m32).bind <| fun z40 =>
  (N_Y_heightOf v1 z40 m32).bind fun z45 =>
  ix v1 120 <|
  st (yw m32 113 v1 z45) fun m49 =>
  ix v1 120 <|
  (NL_Y_layBlock_512 v1 z24 (m49 50 v1) m49).bind <| fun z55 =>
  nk_Y_layBlock_540 v1 z24 z55 m49
theorem f_Y_layBlock {w y : Prop} {g : g_S} {n : NS} {m : YS} (hy : y) {xv1 : Int32} {v1 : Int} (ev1 : xv1 = Int32.ofInt v1) (rv1 : inR v1) (hR : RC w y g n m) : Rf (fun a b => RC w y a n b) (M_Y_layBlock 1838 xv1 g) (N_Y_layBlock v1 m) := by
  subst ev1
  unfold M_Y_layBlock N_Y_layBlock
  refine v_c (y_gt hR hy) ?_
  refine rf_bind (f_Y_inner hy rfl rv1 hR) (fun a4 z2 h => ?_)
  obtain ⟨rfl, r3⟩ := h
  refine y_pI hR hy yk145 ⟨yt145, yz145⟩ rfl r3 (fun g8 m6 hR7 => ?_)
  refine v_c (y_gt hR7 hy) ?_
  refine rf_bind (f_Y_of hy rfl rv1 (e_n 9) (show inR 9 by decide) hR7) (fun a12 z10 h => ?_)
  obtain ⟨rfl, r11⟩ := h
  refine y_pI hR7 hy yk133 ⟨yt133, yz133⟩ rfl r11 (fun g16 m14 hR15 => ?_)
  refine y_pI hR15 hy yk136 ⟨yt136, yz136⟩ (e_n 0) (show inR 0 by decide) (fun g20 m18 hR19 => ?_)
  refine y_Q hR19 hy ya50.1 (by decide) ?_
  refine y_aI hR19 hy ya50 yl50 rfl rv1 (fun h22 h23 => ?_)
  refine rf_bind (fL_Y_layBlock_49 hy rfl rv1 (e_n 0) (show inR 0 by decide) (e_m 1) (show inR (-1) by decide) (e_n 0) (show inR 0 by decide) (e_n 1) (show inR 1 by decide) (e_n 0) (show inR 0 by decide) (e_m 1) (show inR (-1) by decide) rfl h23 hR19) (fun a25 z24 h => ?_)
  obtain ⟨rfl, r26⟩ := (show RI a25 z24 from h)
  refine y_Q hR19 hy ya50.1 (by decide) ?_
  refine y_aI hR19 hy ya50 yl50 rfl rv1 (fun h28 h29 => ?_)
  refine rf_bind (fL_Y_layBlock_89 hy rfl rv1 rfl r26 (e_n 0) (show inR 0 by decide) (e_m 1) (show inR (-1) by decide) (e_n 0) (show inR 0 by decide) (e_n 1) (show inR 1 by decide) (e_n 0) (show inR 0 by decide) rfl h29 hR19) (fun a b h => ?_)
  obtain ⟨a33, a34, a35⟩ := a
  obtain ⟨z30, z31, m32⟩ := b
  refine rf_u3 ?_
  obtain ⟨rfl, r37⟩ := (show RI a33 z30 from h.1)
  obtain ⟨rfl, r38⟩ := (show RI a34 z31 from h.2.1)
  have hR36 : RC w y a35 n m32 := h.2.2
  refine rf_bind (fL_Y_layBlock_462 hy rfl rv1 rfl r26 (e_mx rfl rfl r38 r37) (max_r r38 r37) (e_n 0) (show inR 0 by decide) hR36) (fun a41 z40 h => ?_)
  obtain ⟨rfl, r42⟩ := (show RI a41 z40 from h)
  refine y_Q hR36 hy ya113.1 (by decide) ?_
  refine v_c (y_gt hR36 hy) ?_
  refine rf_bind (f_Y_heightOf hy rfl rv1 rfl r42 hR36) (fun a47 z45 h => ?_)
  obtain ⟨rfl, r46⟩ := h
  refine y_sI hR36 hy ya113 yl113 rfl rv1 rfl r46 (fun g51 m49 hR50 => ?_)
  refine y_Q hR50 hy ya50.1 (by decide) ?_
  refine y_aI hR50 hy ya50 yl50 rfl rv1 (fun h53 h54 => ?_)
  refine rf_bind (fL_Y_layBlock_512 hy rfl rv1 rfl r26 rfl h54 hR50) (fun a56 z55 h => ?_)
  obtain ⟨rfl, r57⟩ := (show RI a56 z55 from h)
  exact fk_Y_layBlock_540 hy rfl rv1 rfl r26 rfl r57 hR50
noncomputable def nk_Y_layFlex_102 (v1 : Int) (v2 : Int) (v3 : Int) (v4 : Int) (m : YS) : Option ((Int × Int × Int × YS) ⊕ (Int × YS)) :=
  ix v4 120 <|
  some (.inl (v2, v3, (m 52 v4), m))
theorem fk_Y_layFlex_102 {w y : Prop} {g : g_S} {n : NS} {m : YS} (hy : y) {xv1 : Int32} {v1 : Int} (ev1 : xv1 = Int32.ofInt v1) (rv1 : inR v1) {xv2 : Int32} {v2 : Int} (ev2 : xv2 = Int32.ofInt v2) (rv2 : inR v2) {xv3 : Int32} {v3 : Int} (ev3 : xv3 = Int32.ofInt v3) (rv3 : inR v3) {xv4 : Int32} {v4 : Int} (ev4 : xv4 = Int32.ofInt v4) (rv4 : inR v4) (hR : RC w y g n m) : Rf (RS (fun a b => RI a.1 b.1 ∧ RI a.2.1 b.2.1 ∧ RI a.2.2.1 b.2.2.1 ∧ RC w y a.2.2.2 n b.2.2.2) (fun a b => RI a.1 b.1 ∧ RC w y a.2 n b.2)) (k_Y_layFlex_102 1838 xv1 xv2 xv3 xv4 g) (nk_Y_layFlex_102 v1 v2 v3 v4 m) := by
  subst ev1
  subst ev2
  subst ev3
  subst ev4
  unfold k_Y_layFlex_102 nk_Y_layFlex_102
  refine y_Q hR hy ya52.1 (by decide) ?_
  refine y_aI hR hy ya52 yl52 rfl rv4 (fun h2 h3 => ?_)
  exact rf_ok (by exact ⟨⟨rfl, rv2⟩, ⟨rfl, rv3⟩, ⟨rfl, h3⟩, hR⟩)
noncomputable def nk_Y_layFlex_41 (v1 : Int) (v2 : Int) (v3 : Int) (v4 : Int) (m : YS) : Option ((Int × Int × Int × YS) ⊕ (Int × YS)) :=
  (N_Y_of v4 3 m).bind fun z2 =>
  ck (v2 + z2) <|
  ix v4 120 <|
  st (yw m 110 v4 (v2 + z2)) fun m8 =>
  ix v4 120 <|
  st (yw m8 111 v4 z2) fun m13 =>
  ix v4 120 <|
  ck (2 * z2) <|
  ck ((m13 112 v4) + (2 * z2)) <|
  ck (v2 + ((m13 112 v4) + (2 * z2))) <|
  ix v4 120 <|
  ck (2 * z2) <|
  ck ((m13 113 v4) + (2 * z2)) <|
  nk_Y_layFlex_102 v1 (v2 + ((m13 112 v4) + (2 * z2))) (max v3 ((m13 113 v4) + (2 * z2))) v4 m13
theorem fk_Y_layFlex_41 {w y : Prop} {g : g_S} {n : NS} {m : YS} (hy : y) {xv1 : Int32} {v1 : Int} (ev1 : xv1 = Int32.ofInt v1) (rv1 : inR v1) {xv2 : Int32} {v2 : Int} (ev2 : xv2 = Int32.ofInt v2) (rv2 : inR v2) {xv3 : Int32} {v3 : Int} (ev3 : xv3 = Int32.ofInt v3) (rv3 : inR v3) {xv4 : Int32} {v4 : Int} (ev4 : xv4 = Int32.ofInt v4) (rv4 : inR v4) (hR : RC w y g n m) : Rf (RS (fun a b => RI a.1 b.1 ∧ RI a.2.1 b.2.1 ∧ RI a.2.2.1 b.2.2.1 ∧ RC w y a.2.2.2 n b.2.2.2) (fun a b => RI a.1 b.1 ∧ RC w y a.2 n b.2)) (k_Y_layFlex_41 1838 xv1 xv2 xv3 xv4 g) (nk_Y_layFlex_41 v1 v2 v3 v4 m) := by
  subst ev1
  subst ev2
  subst ev3
  subst ev4
  unfold k_Y_layFlex_41 nk_Y_layFlex_41
  refine v_c (y_gt hR hy) ?_
  refine rf_bind (f_Y_of hy rfl rv4 (e_n 3) (show inR 3 by decide) hR) (fun a4 z2 h => ?_)
  obtain ⟨rfl, r3⟩ := h
  refine y_Q hR hy ya110.1 (by decide) ?_
  refine rf_ck (fun h6 => ?_)
  refine y_sI hR hy ya110 yl110 rfl rv4 (e_add rfl rfl) h6 (fun g10 m8 hR9 => ?_)
  refine y_Q hR9 hy ya111.1 (by decide) ?_
  refine y_sI hR9 hy ya111 yl111 rfl rv4 rfl r3 (fun g15 m13 hR14 => ?_)
  refine y_Q hR14 hy ya112.1 (by decide) ?_
  refine y_aI hR14 hy ya112 yl112 rfl rv4 (fun h17 h18 => ?_)
  refine rf_ck (fun h19 => ?_)
  refine rf_ck (fun h20 => ?_)
  refine rf_ck (fun h21 => ?_)
  refine y_Q hR14 hy ya113.1 (by decide) ?_
  refine y_aI hR14 hy ya113 yl113 rfl rv4 (fun h23 h24 => ?_)
  refine rf_ck (fun h25 => ?_)
  refine rf_ck (fun h26 => ?_)
  exact fk_Y_layFlex_102 hy rfl rv1 (e_add rfl (e_add rfl (e_mul (e_n 2) rfl))) h21 (e_mx rfl (e_add rfl (e_mul (e_n 2) rfl)) rv3 h26) (max_r rv3 h26) rfl rv4 hR14
noncomputable def nb_Y_layFlex_12 (v1 : Int) (v2 : Int) (v3 : Int) (v4 : Int) (m : YS) : Option ((Int × Int × Int × YS) ⊕ (Int × YS)) :=
  if v4 = (-1) then
    some (.inr (v3, m))
  else
    (N_Y_isBox v4 m).bind fun z3 =>
    if z3 = 0 then
      ix v4 120 <|
      if (m 107 v4) = 4 then
        nk_Y_layFlex_41 v1 v2 v3 v4 m
      else
        nk_Y_layFlex_102 v1 v2 v3 v4 m
    else
      nk_Y_layFlex_41 v1 v2 v3 v4 m
theorem fb_Y_layFlex_12 {w y : Prop} {g : g_S} {n : NS} {m : YS} (hy : y) {xv1 : Int32} {v1 : Int} (ev1 : xv1 = Int32.ofInt v1) (rv1 : inR v1) {xv2 : Int32} {v2 : Int} (ev2 : xv2 = Int32.ofInt v2) (rv2 : inR v2) {xv3 : Int32} {v3 : Int} (ev3 : xv3 = Int32.ofInt v3) (rv3 : inR v3) {xv4 : Int32} {v4 : Int} (ev4 : xv4 = Int32.ofInt v4) (rv4 : inR v4) (hR : RC w y g n m) : Rf (RS (fun a b => RI a.1 b.1 ∧ RI a.2.1 b.2.1 ∧ RI a.2.2.1 b.2.2.1 ∧ RC w y a.2.2.2 n b.2.2.2) (fun a b => RI a.1 b.1 ∧ RC w y a.2 n b.2)) (b_Y_layFlex_12 1838 xv1 xv2 xv3 xv4 g) (nb_Y_layFlex_12 v1 v2 v3 v4 m) := by
  subst ev1
  subst ev2
  subst ev3
  subst ev4
  unfold b_Y_layFlex_12 nb_Y_layFlex_12
  refine rf_eq rfl (e_m 1) rv4 (show inR (-1) by decide) ?_ ?_
  · exact rf_ok (by exact ⟨⟨rfl, rv3⟩, hR⟩)
  · refine v_c (y_gt hR hy) ?_
    refine rf_bind (f_Y_isBox hy rfl rv4 hR) (fun a5 z3 h => ?_)
    obtain ⟨rfl, r4⟩ := h
    refine rf_eq rfl (e_n 0) (inZ.r r4) (show inR 0 by decide) ?_ ?_
    · refine y_Q hR hy ya107.1 (by decide) ?_
      refine y_aI hR hy ya107 yl107 rfl rv4 (fun h8 h9 => ?_)
      refine rf_eq rfl (e_n 4) h9 (show inR 4 by decide) ?_ ?_
      · exact fk_Y_layFlex_41 hy rfl rv1 rfl rv2 rfl rv3 rfl rv4 hR
      · exact fk_Y_layFlex_102 hy rfl rv1 rfl rv2 rfl rv3 rfl rv4 hR
    · exact fk_Y_layFlex_41 hy rfl rv1 rfl rv2 rfl rv3 rfl rv4 hR
noncomputable def NL_Y_layFlex_12 (v1 : Int) (v2 : Int) (v3 : Int) (v4 : Int) (m : YS) : Option (Int × YS) :=
  it (fun s : Int × Int × Int × YS => nb_Y_layFlex_12 v1 s.1 s.2.1 s.2.2.1 s.2.2.2) (v2, v3, v4, m)
theorem fL_Y_layFlex_12 {w y : Prop} {g : g_S} {n : NS} {m : YS} (hy : y) {xv1 : Int32} {v1 : Int} (ev1 : xv1 = Int32.ofInt v1) (rv1 : inR v1) {xv2 : Int32} {v2 : Int} (ev2 : xv2 = Int32.ofInt v2) (rv2 : inR v2) {xv3 : Int32} {v3 : Int} (ev3 : xv3 = Int32.ofInt v3) (rv3 : inR v3) {xv4 : Int32} {v4 : Int} (ev4 : xv4 = Int32.ofInt v4) (rv4 : inR v4) (hR : RC w y g n m) : Rf (fun a b => RI a.1 b.1 ∧ RC w y a.2 n b.2) (L_Y_layFlex_12 1838 xv1 xv2 xv3 xv4 g) (NL_Y_layFlex_12 v1 v2 v3 v4 m) := by
  subst ev1
  subst ev2
  subst ev3
  subst ev4
  unfold L_Y_layFlex_12 NL_Y_layFlex_12
  refine rf_it (I := (fun a b => RI a.1 b.1 ∧ RI a.2.1 b.2.1 ∧ RI a.2.2.1 b.2.2.1 ∧ RC w y a.2.2.2 n b.2.2.2)) (fun s t h => ?_) ⟨⟨rfl, rv2⟩, ⟨rfl, rv3⟩, ⟨rfl, rv4⟩, hR⟩
  exact fb_Y_layFlex_12 hy rfl rv1 h.1.1 h.1.2 h.2.1.1 h.2.1.2 h.2.2.1.1 h.2.2.1.2 h.2.2.2
theorem NL_Y_layFlex_12_eq (v1 : Int) (v2 : Int) (v3 : Int) (v4 : Int) (m : YS) : NL_Y_layFlex_12 v1 v2 v3 v4 m = itc (nb_Y_layFlex_12 v1 v2 v3 v4 m) (fun s => NL_Y_layFlex_12 v1 s.1 s.2.1 s.2.2.1 s.2.2.2) := it_eq2 (fun s : Int × Int × Int × YS => nb_Y_layFlex_12 v1 s.1 s.2.1 s.2.2.1 s.2.2.2) (v2, v3, v4, m)
noncomputable def N_Y_layFlex (v1 : Int) (m : YS) : Option (YS) :=
  ix v1 120 <|
  (NL_Y_layFlex_12 v1 0 0 (m 50 v1) m).bind <| u2 fun z4 m5 =>
  (N_Y_of v1 3 m5).bind fun z12 =>
  ix v1 120 <|
  st (yw m5 114 v1 z12) fun m16 =>
  (N_Y_of v1 3 m16).bind fun z21 =>
  ix v1 120 <|
  st (yw m16 115 v1 z21) fun m25 =>
  (N_Y_heightOf v1 z4 m25).bind fun z30 =>
  ix v1 120 <|
  st (yw m25 113 v1 z30) fun m34 =>
  some m34
theorem f_Y_layFlex {w y : Prop} {g : g_S} {n : NS} {m : YS} (hy : y) {xv1 : Int32} {v1 : Int} (ev1 : xv1 = Int32.ofInt v1) (rv1 : inR v1) (hR : RC w y g n m) : Rf (fun a b => RC w y a n b) (M_Y_layFlex 1838 xv1 g) (N_Y_layFlex v1 m) := by
  subst ev1
  unfold M_Y_layFlex N_Y_layFlex
  refine y_Q hR hy ya50.1 (by decide) ?_
  refine y_aI hR hy ya50 yl50 rfl rv1 (fun h2 h3 => ?_)
  refine rf_bind (fL_Y_layFlex_12 hy rfl rv1 (e_n 0) (show inR 0 by decide) (e_n 0) (show inR 0 by decide) rfl h3 hR) (fun a b h => ?_)
  obtain ⟨a6, a7⟩ := a
  obtain ⟨z4, m5⟩ := b
  refine rf_u2 ?_
  obtain ⟨rfl, r9⟩ := (show RI a6 z4 from h.1)
  have hR8 : RC w y a7 n m5 := h.2
  refine y_Q hR8 hy ya114.1 (by decide) ?_
  refine v_c (y_gt hR8 hy) ?_
  refine rf_bind (f_Y_of hy rfl rv1 (e_n 3) (show inR 3 by decide) hR8) (fun a14 z12 h => ?_)
  obtain ⟨rfl, r13⟩ := h
  refine y_sI hR8 hy ya114 yl114 rfl rv1 rfl r13 (fun g18 m16 hR17 => ?_)
  refine y_Q hR17 hy ya115.1 (by decide) ?_
  refine v_c (y_gt hR17 hy) ?_
  refine rf_bind (f_Y_of hy rfl rv1 (e_n 3) (show inR 3 by decide) hR17) (fun a23 z21 h => ?_)
  obtain ⟨rfl, r22⟩ := h
  refine y_sI hR17 hy ya115 yl115 rfl rv1 rfl r22 (fun g27 m25 hR26 => ?_)
  refine y_Q hR26 hy ya113.1 (by decide) ?_
  refine v_c (y_gt hR26 hy) ?_
  refine rf_bind (f_Y_heightOf hy rfl rv1 rfl r9 hR26) (fun a32 z30 h => ?_)
  obtain ⟨rfl, r31⟩ := h
  refine y_sI hR26 hy ya113 yl113 rfl rv1 rfl r31 (fun g36 m34 hR35 => ?_)
  exact rf_ok (by exact hR35)
