/-! methods on numbers, group 7 -/
noncomputable def nb_Y_dropCookie_168 (v1 : Int) (v2 : Int) (v3 : Int) (v4 : Int) (m : YS) : Option ((Int × YS) ⊕ (YS)) :=
  if v4 < v2 then
    ck (24 * v3) <|
    ck ((24 * v3) + v4) <|
    ck (602 + v4) <|
    ix (602 + v4) 9900 <|
    ix ((24 * v3) + v4) 480 <|
    st (yw m 31 ((24 * v3) + v4) (m 6 (602 + v4))) fun m10 =>
    ck (v4 + 1) <|
    some (.inl (v4 + 1, m10))
  else
    some (.inr m)
theorem fb_Y_dropCookie_168 {w y : Prop} {g : g_S} {n : NS} {m : YS} (hy : y) {xv1 : Int32} {v1 : Int} (ev1 : xv1 = Int32.ofInt v1) (rv1 : inR v1) {xv2 : Int32} {v2 : Int} (ev2 : xv2 = Int32.ofInt v2) (rv2 : inR v2) {xv3 : Int32} {v3 : Int} (ev3 : xv3 = Int32.ofInt v3) (rv3 : inR v3) {xv4 : Int32} {v4 : Int} (ev4 : xv4 = Int32.ofInt v4) (rv4 : inR v4) (hR : RC w y g n m) : Rf (RS (fun a b => RI a.1 b.1 ∧ RC w y a.2 n b.2) (fun a b => RC w y a n b)) (b_Y_dropCookie_168 1838 xv1 xv2 xv3 xv4 g) (nb_Y_dropCookie_168 v1 v2 v3 v4 m) := by
  subst ev1
  subst ev2
  subst ev3
  subst ev4
  unfold b_Y_dropCookie_168 nb_Y_dropCookie_168
  refine rf_lt rfl rfl rv4 rv2 ?_ ?_
  · refine y_Q hR hy ya31.1 (by decide) ?_
    refine rf_ck (fun h3 => ?_)
    refine rf_ck (fun h4 => ?_)
    refine y_Q hR hy ya6.1 (by decide) ?_
    refine rf_ck (fun h6 => ?_)
    refine y_aB hR hy ya6 yl6 (e_add (e_n 602) rfl) h6 (fun h7 h8 => ?_)
    refine y_sB hR hy ya31 yl31 (e_add (e_mul (e_n 24) rfl) rfl) h4 rfl h8 (fun g12 m10 hR11 => ?_)
    refine rf_ck (fun h13 => ?_)
    exact rf_ok (by exact ⟨⟨(e_add rfl (e_n 1)), h13⟩, hR11⟩)
  · exact rf_ok (by exact hR)
noncomputable def NL_Y_dropCookie_168 (v1 : Int) (v2 : Int) (v3 : Int) (v4 : Int) (m : YS) : Option (YS) :=
  it (fun s : Int × YS => nb_Y_dropCookie_168 v1 v2 v3 s.1 s.2) (v4, m)
theorem fL_Y_dropCookie_168 {w y : Prop} {g : g_S} {n : NS} {m : YS} (hy : y) {xv1 : Int32} {v1 : Int} (ev1 : xv1 = Int32.ofInt v1) (rv1 : inR v1) {xv2 : Int32} {v2 : Int} (ev2 : xv2 = Int32.ofInt v2) (rv2 : inR v2) {xv3 : Int32} {v3 : Int} (ev3 : xv3 = Int32.ofInt v3) (rv3 : inR v3) {xv4 : Int32} {v4 : Int} (ev4 : xv4 = Int32.ofInt v4) (rv4 : inR v4) (hR : RC w y g n m) : Rf (fun a b => RC w y a n b) (L_Y_dropCookie_168 1838 xv1 xv2 xv3 xv4 g) (NL_Y_dropCookie_168 v1 v2 v3 v4 m) := by
  subst ev1
  subst ev2
  subst ev3
  subst ev4
  unfold L_Y_dropCookie_168 NL_Y_dropCookie_168
  refine rf_it (I := (fun a b => RI a.1 b.1 ∧ RC w y a.2 n b.2)) (fun s t h => ?_) ⟨⟨rfl, rv4⟩, hR⟩
  exact fb_Y_dropCookie_168 hy rfl rv1 rfl rv2 rfl rv3 h.1.1 h.1.2 h.2
theorem NL_Y_dropCookie_168_eq (v1 : Int) (v2 : Int) (v3 : Int) (v4 : Int) (m : YS) : NL_Y_dropCookie_168 v1 v2 v3 v4 m = itc (nb_Y_dropCookie_168 v1 v2 v3 v4 m) (fun s => NL_Y_dropCookie_168 v1 v2 v3 s.1 s.2) := it_eq2 (fun s : Int × YS => nb_Y_dropCookie_168 v1 v2 v3 s.1 s.2) (v4, m)
noncomputable def nb_Y_dropCookie_206 (v1 : Int) (v3 : Int) (v4 : Int) (m : YS) : Option ((Int × YS) ⊕ (YS)) :=
  if v4 < 8 then
    ck (24 * v3) <|
    ck ((24 * v3) + 8) <|
    ck (((24 * v3) + 8) + v4) <|
    ck (16 * v1) <|
    ck ((16 * v1) + v4) <|
    ix ((16 * v1) + v4) 192 <|
    ix (((24 * v3) + 8) + v4) 480 <|
    st (yw m 31 (((24 * v3) + 8) + v4) (m 20 ((16 * v1) + v4))) fun m12 =>
    ck (24 * v3) <|
    ck ((24 * v3) + 16) <|
    ck (((24 * v3) + 16) + v4) <|
    ck (16 * v1) <|
    ck ((16 * v1) + 8) <|
    ck (((16 * v1) + 8) + v4) <|
    ix (((16 * v1) + 8) + v4) 192 <|
    ix (((24 * v3) + 16) + v4) 480 <|
    st (yw m12 31 (((24 * v3) + 16) + v4) (m12 20 (((16 * v1) + 8) + v4))) fun m26 =>
    ck (v4 + 1) <|
    some (.inl (v4 + 1, m26))
  else
    some (.inr m)
theorem fb_Y_dropCookie_206 {w y : Prop} {g : g_S} {n : NS} {m : YS} (hy : y) {xv1 : Int32} {v1 : Int} (ev1 : xv1 = Int32.ofInt v1) (rv1 : inR v1) {xv3 : Int32} {v3 : Int} (ev3 : xv3 = Int32.ofInt v3) (rv3 : inR v3) {xv4 : Int32} {v4 : Int} (ev4 : xv4 = Int32.ofInt v4) (rv4 : inR v4) (hR : RC w y g n m) : Rf (RS (fun a b => RI a.1 b.1 ∧ RC w y a.2 n b.2) (fun a b => RC w y a n b)) (b_Y_dropCookie_206 1838 xv1 xv3 xv4 g) (nb_Y_dropCookie_206 v1 v3 v4 m) := by
  subst ev1
  subst ev3
  subst ev4
  unfold b_Y_dropCookie_206 nb_Y_dropCookie_206
  refine rf_lt rfl (e_n 8) rv4 (show inR 8 by decide) ?_ ?_
  · refine y_Q hR hy ya31.1 (by decide) ?_
    refine rf_ck (fun h3 => ?_)
    refine rf_ck (fun h4 => ?_)
    refine rf_ck (fun h5 => ?_)
    refine y_Q hR hy ya20.1 (by decide) ?_
    refine rf_ck (fun h7 => ?_)
    refine rf_ck (fun h8 => ?_)
    refine y_aB hR hy ya20 yl20 (e_add (e_mul (e_n 16) rfl) rfl) h8 (fun h9 h10 => ?_)
    refine y_sB hR hy ya31 yl31 (e_add (e_add (e_mul (e_n 24) rfl) (e_n 8)) rfl) h5 rfl h10 (fun g14 m12 hR13 => ?_)
    refine y_Q hR13 hy ya31.1 (by decide) ?_
    refine rf_ck (fun h16 => ?_)
    refine rf_ck (fun h17 => ?_)
    refine rf_ck (fun h18 => ?_)
    refine y_Q hR13 hy ya20.1 (by decide) ?_
    refine rf_ck (fun h20 => ?_)
    refine rf_ck (fun h21 => ?_)
    refine rf_ck (fun h22 => ?_)
    refine y_aB hR13 hy ya20 yl20 (e_add (e_add (e_mul (e_n 16) rfl) (e_n 8)) rfl) h22 (fun h23 h24 => ?_)
    refine y_sB hR13 hy ya31 yl31 (e_add (e_add (e_mul (e_n 24) rfl) (e_n 16)) rfl) h18 rfl h24 (fun g28 m26 hR27 => ?_)
    refine rf_ck (fun h29 => ?_)
    exact rf_ok (by exact ⟨⟨(e_add rfl (e_n 1)), h29⟩, hR27⟩)
  · exact rf_ok (by exact hR)
noncomputable def NL_Y_dropCookie_206 (v1 : Int) (v3 : Int) (v4 : Int) (m : YS) : Option (YS) :=
  it (fun s : Int × YS => nb_Y_dropCookie_206 v1 v3 s.1 s.2) (v4, m)
theorem fL_Y_dropCookie_206 {w y : Prop} {g : g_S} {n : NS} {m : YS} (hy : y) {xv1 : Int32} {v1 : Int} (ev1 : xv1 = Int32.ofInt v1) (rv1 : inR v1) {xv3 : Int32} {v3 : Int} (ev3 : xv3 = Int32.ofInt v3) (rv3 : inR v3) {xv4 : Int32} {v4 : Int} (ev4 : xv4 = Int32.ofInt v4) (rv4 : inR v4) (hR : RC w y g n m) : Rf (fun a b => RC w y a n b) (L_Y_dropCookie_206 1838 xv1 xv3 xv4 g) (NL_Y_dropCookie_206 v1 v3 v4 m) := by
  subst ev1
  subst ev3
  subst ev4
  unfold L_Y_dropCookie_206 NL_Y_dropCookie_206
  refine rf_it (I := (fun a b => RI a.1 b.1 ∧ RC w y a.2 n b.2)) (fun s t h => ?_) ⟨⟨rfl, rv4⟩, hR⟩
  exact fb_Y_dropCookie_206 hy rfl rv1 rfl rv3 h.1.1 h.1.2 h.2
theorem NL_Y_dropCookie_206_eq (v1 : Int) (v3 : Int) (v4 : Int) (m : YS) : NL_Y_dropCookie_206 v1 v3 v4 m = itc (nb_Y_dropCookie_206 v1 v3 v4 m) (fun s => NL_Y_dropCookie_206 v1 v3 s.1 s.2) := it_eq2 (fun s : Int × YS => nb_Y_dropCookie_206 v1 v3 s.1 s.2) (v4, m)
noncomputable def nb_Y_dropCookie_10 (v1 : Int) (v2 : Int) (v3 : Int) (m : YS) : Option ((Int) ⊕ (Int)) :=
  if v3 < (m 30 0) then
    ix v3 20 <|
    if (m 32 v3) = v2 then
      ck (24 * v3) <|
      (N_Y_same 31 (24 * v3) 6 602 v2 m).bind fun z11 =>
      if z11 = 0 then
        ck (v3 + 1) <|
        some (.inl (v3 + 1))
      else
        ix v3 20 <|
        ix v1 12 <|
        if (m 33 v3) = (m 21 v1) then
          ck (24 * v3) <|
          ck ((24 * v3) + 8) <|
          ck (16 * v1) <|
          ix v1 12 <|
          (N_Y_same 31 ((24 * v3) + 8) 20 (16 * v1) (m 21 v1) m).bind fun z32 =>
          if z32 = 0 then
            ck (v3 + 1) <|
            some (.inl (v3 + 1))
          else
            some (.inr v3)
        else
          ck (v3 + 1) <|
          some (.inl (v3 + 1))
    else
      ck (v3 + 1) <|
      some (.inl (v3 + 1))
  else
    some (.inr v3)
theorem fb_Y_dropCookie_10 {w y : Prop} {g : g_S} {n : NS} {m : YS} (hy : y) {xv1 : Int32} {v1 : Int} (ev1 : xv1 = Int32.ofInt v1) (rv1 : inR v1) {xv2 : Int32} {v2 : Int} (ev2 : xv2 = Int32.ofInt v2) (rv2 : inR v2) {xv3 : Int32} {v3 : Int} (ev3 : xv3 = Int32.ofInt v3) (rv3 : inR v3) (hR : RC w y g n m) : Rf (RS (fun a b => RI a b) (fun a b => RI a b)) (b_Y_dropCookie_10 1838 xv1 xv2 xv3 g) (nb_Y_dropCookie_10 v1 v2 v3 m) := by
  subst ev1
  subst ev2
  subst ev3
  unfold b_Y_dropCookie_10 nb_Y_dropCookie_10
  refine y_I hR hy yk30 yt30 (fun h1 => ?_)
  refine rf_lt rfl rfl rv3 h1 ?_ ?_
  · refine y_Q hR hy ya32.1 (by decide) ?_
    refine y_aI hR hy ya32 yl32 rfl rv3 (fun h4 h5 => ?_)
    refine rf_eq rfl rfl h5 rv2 ?_ ?_
    · refine y_Q hR hy ya31.1 (by decide) ?_
      refine rf_ck (fun h8 => ?_)
      refine y_Q hR hy ya6.1 (by decide) ?_
      refine rf_bind (f_Y_same hy rfl ya31 (e_mul (e_n 24) rfl) h8 rfl ya6 (e_n 602) (show inR 602 by decide) rfl rv2 hR) (fun a13 z11 h => ?_)
      obtain ⟨rfl, r12⟩ := h
      refine rf_eq rfl (e_n 0) (inZ.r r12) (show inR 0 by decide) ?_ ?_
      · refine rf_ck (fun h15 => ?_)
        exact rf_ok (by exact ⟨(e_add rfl (e_n 1)), h15⟩)
      · refine y_Q hR hy ya33.1 (by decide) ?_
        refine y_aI hR hy ya33 yl33 rfl rv3 (fun h17 h18 => ?_)
        refine y_Q hR hy ya21.1 (by decide) ?_
        refine y_aI hR hy ya21 yl21 rfl rv1 (fun h20 h21 => ?_)
        refine rf_eq rfl rfl h18 h21 ?_ ?_
        · refine y_Q hR hy ya31.1 (by decide) ?_
          refine rf_ck (fun h24 => ?_)
          refine rf_ck (fun h25 => ?_)
          refine y_Q hR hy ya20.1 (by decide) ?_
          refine rf_ck (fun h27 => ?_)
          refine y_Q hR hy ya21.1 (by decide) ?_
          refine y_aI hR hy ya21 yl21 rfl rv1 (fun h29 h30 => ?_)
          refine rf_bind (f_Y_same hy rfl ya31 (e_add (e_mul (e_n 24) rfl) (e_n 8)) h25 rfl ya20 (e_mul (e_n 16) rfl) h27 rfl h30 hR) (fun a34 z32 h => ?_)
          obtain ⟨rfl, r33⟩ := h
          refine rf_eq rfl (e_n 0) (inZ.r r33) (show inR 0 by decide) ?_ ?_
          · refine rf_ck (fun h36 => ?_)
            exact rf_ok (by exact ⟨(e_add rfl (e_n 1)), h36⟩)
          · exact rf_ok (by exact ⟨rfl, rv3⟩)
        · refine rf_ck (fun h37 => ?_)
          exact rf_ok (by exact ⟨(e_add rfl (e_n 1)), h37⟩)
    · refine rf_ck (fun h38 => ?_)
      exact rf_ok (by exact ⟨(e_add rfl (e_n 1)), h38⟩)
  · exact rf_ok (by exact ⟨rfl, rv3⟩)
noncomputable def NL_Y_dropCookie_10 (v1 : Int) (v2 : Int) (v3 : Int) (m : YS) : Option (Int) :=
  it (fun s : Int => nb_Y_dropCookie_10 v1 v2 s m) (v3)
theorem fL_Y_dropCookie_10 {w y : Prop} {g : g_S} {n : NS} {m : YS} (hy : y) {xv1 : Int32} {v1 : Int} (ev1 : xv1 = Int32.ofInt v1) (rv1 : inR v1) {xv2 : Int32} {v2 : Int} (ev2 : xv2 = Int32.ofInt v2) (rv2 : inR v2) {xv3 : Int32} {v3 : Int} (ev3 : xv3 = Int32.ofInt v3) (rv3 : inR v3) (hR : RC w y g n m) : Rf (fun a b => RI a b) (L_Y_dropCookie_10 1838 xv1 xv2 xv3 g) (NL_Y_dropCookie_10 v1 v2 v3 m) := by
  subst ev1
  subst ev2
  subst ev3
  unfold L_Y_dropCookie_10 NL_Y_dropCookie_10
  refine rf_it (I := (fun a b => RI a b)) (fun s t h => ?_) ⟨rfl, rv3⟩
  exact fb_Y_dropCookie_10 hy rfl rv1 rfl rv2 h.1 h.2 hR
theorem NL_Y_dropCookie_10_eq (v1 : Int) (v2 : Int) (v3 : Int) (m : YS) : NL_Y_dropCookie_10 v1 v2 v3 m = itc (nb_Y_dropCookie_10 v1 v2 v3 m) (fun s => NL_Y_dropCookie_10 v1 v2 s m) := it_eq2 (fun s : Int => nb_Y_dropCookie_10 v1 v2 s m) (v3)
noncomputable def nk_Y_dropCookie_131 (v1 : Int) (v2 : Int) (v3 : Int) (w0 : Int) (m : YS) : Option (YS) :=
  st (yw m 30 0 w0) fun m2 =>
  ix v3 20 <|
  st (yw m2 32 v3 v2) fun m7 =>
  ix v1 12 <|
  ix v3 20 <|
  st (yw m7 33 v3 (m7 21 v1)) fun m15 =>
  ix v1 12 <|
  ix v3 20 <|
  st (yw m15 34 v3 (m15 22 v1)) fun m23 =>
  (NL_Y_dropCookie_168 v1 v2 v3 0 m23).bind <| fun m26 =>
  (NL_Y_dropCookie_206 v1 v3 0 m26).bind <| fun m29 =>
  some m29
theorem fk_Y_dropCookie_131 {w y : Prop} {g : g_S} {n : NS} {m : YS} (hy : y) {xv1 : Int32} {v1 : Int} (ev1 : xv1 = Int32.ofInt v1) (rv1 : inR v1) {xv2 : Int32} {v2 : Int} (ev2 : xv2 = Int32.ofInt v2) (rv2 : inR v2) {xv3 : Int32} {v3 : Int} (ev3 : xv3 = Int32.ofInt v3) (rv3 : inR v3) {xw0 : Int32} {w0 : Int} (ew0 : xw0 = Int32.ofInt w0) (rw0 : inR w0) (hR : RC w y g n m) : Rf (fun a b => RC w y a n b) (k_Y_dropCookie_131 1838 xv1 xv2 xv3 xw0 1838 g) (nk_Y_dropCookie_131 v1 v2 v3 w0 m) := by
  subst ev1
  subst ev2
  subst ev3
  subst ew0
  unfold k_Y_dropCookie_131 nk_Y_dropCookie_131
  refine y_pI hR hy yk30 ⟨yt30, yz30⟩ rfl rw0 (fun g4 m2 hR3 => ?_)
  refine y_Q hR3 hy ya32.1 (by decide) ?_
  refine y_sI hR3 hy ya32 yl32 rfl rv3 rfl rv2 (fun g9 m7 hR8 => ?_)
  refine y_Q hR8 hy ya33.1 (by decide) ?_
  refine y_Q hR8 hy ya21.1 (by decide) ?_
  refine y_aI hR8 hy ya21 yl21 rfl rv1 (fun h12 h13 => ?_)
  refine y_sI hR8 hy ya33 yl33 rfl rv3 rfl h13 (fun g17 m15 hR16 => ?_)
  refine y_Q hR16 hy ya34.1 (by decide) ?_
  refine y_Q hR16 hy ya22.1 (by decide) ?_
  refine y_aI hR16 hy ya22 yl22 rfl rv1 (fun h20 h21 => ?_)
  refine y_sI hR16 hy ya34 yl34 rfl rv3 rfl h21 (fun g25 m23 hR24 => ?_)
  refine rf_bind (fL_Y_dropCookie_168 hy rfl rv1 rfl rv2 rfl rv3 (e_n 0) (show inR 0 by decide) hR24) (fun a27 m26 h => ?_)
  have hR28 : RC w y a27 n m26 := h
  refine rf_bind (fL_Y_dropCookie_206 hy rfl rv1 rfl rv3 (e_n 0) (show inR 0 by decide) hR28) (fun a30 m29 h => ?_)
  have hR31 : RC w y a30 n m29 := h
  exact rf_ok (by exact hR31)
noncomputable def nk_Y_dropCookie_102 (v1 : Int) (v2 : Int) (v3 : Int) (m : YS) : Option (YS) :=
  if v3 = 20 then
    some m
  else
    if v3 = (m 30 0) then
      ck ((m 30 0) + 1) <|
      nk_Y_dropCookie_131 v1 v2 v3 ((m 30 0) + 1) m
    else
      nk_Y_dropCookie_131 v1 v2 v3 (m 30 0) m
theorem fk_Y_dropCookie_102 {w y : Prop} {g : g_S} {n : NS} {m : YS} (hy : y) {xv1 : Int32} {v1 : Int} (ev1 : xv1 = Int32.ofInt v1) (rv1 : inR v1) {xv2 : Int32} {v2 : Int} (ev2 : xv2 = Int32.ofInt v2) (rv2 : inR v2) {xv3 : Int32} {v3 : Int} (ev3 : xv3 = Int32.ofInt v3) (rv3 : inR v3) (hR : RC w y g n m) : Rf (fun a b => RC w y a n b) (k_Y_dropCookie_102 1838 xv1 xv2 xv3 g) (nk_Y_dropCookie_102 v1 v2 v3 m) := by
  subst ev1
  subst ev2
  subst ev3
  unfold k_Y_dropCookie_102 nk_Y_dropCookie_102
  refine rf_eq rfl (e_n 20) rv3 (show inR 20 by decide) ?_ ?_
  · exact rf_ok (by exact hR)
  · refine y_I hR hy yk30 yt30 (fun h3 => ?_)
    refine rf_eq rfl rfl rv3 h3 ?_ ?_
    · refine y_I hR hy yk30 yt30 (fun h5 => ?_)
      refine rf_ck (fun h6 => ?_)
      exact fk_Y_dropCookie_131 hy rfl rv1 rfl rv2 rfl rv3 (e_add rfl (e_n 1)) h6 hR
    · refine y_I hR hy yk30 yt30 (fun h7 => ?_)
      exact fk_Y_dropCookie_131 hy rfl rv1 rfl rv2 rfl rv3 rfl h7 hR
noncomputable def N_Y_dropCookie (v1 : Int) (m : YS) : Option (YS) :=
  (N_Y_siteEnd 4 m).bind fun z2 =>
  ck (z2 - 2) <|
  (NL_Y_dropCookie_10 v1 (z2 - 2) 0 m).bind <| fun z6 =>
  nk_Y_dropCookie_102 v1 (z2 - 2) z6 m
theorem f_Y_dropCookie {w y : Prop} {g : g_S} {n : NS} {m : YS} (hy : y) {xv1 : Int32} {v1 : Int} (ev1 : xv1 = Int32.ofInt v1) (rv1 : inR v1) (hR : RC w y g n m) : Rf (fun a b => RC w y a n b) (M_Y_dropCookie 1838 xv1 g) (N_Y_dropCookie v1 m) := by
  subst ev1
  unfold M_Y_dropCookie N_Y_dropCookie
  refine v_c (y_gt hR hy) ?_
  refine rf_bind (f_Y_siteEnd hy (e_n 4) (show inR 4 by decide) hR) (fun a4 z2 h => ?_)
  obtain ⟨rfl, r3⟩ := h
  refine rf_ck (fun h5 => ?_)
  refine rf_bind (fL_Y_dropCookie_10 hy rfl rv1 (e_sub rfl (e_n 2)) h5 (e_n 0) (show inR 0 by decide) hR) (fun a7 z6 h => ?_)
  obtain ⟨rfl, r8⟩ := (show RI a7 z6 from h)
  exact fk_Y_dropCookie_102 hy rfl rv1 (e_sub rfl (e_n 2)) h5 rfl r8 hR
noncomputable def nb_Y_keep_2 (v1 : Int) (v2 : Int) (m : YS) : Option ((Int) ⊕ (Int)) :=
  if v2 < (m 26 0) then
    ck (18 + v2) <|
    (N_Y_alike (18 + v2) 4 m).bind fun z5 =>
    if z5 = 0 then
      ck (v2 + 1) <|
      some (.inl (v2 + 1))
    else
      some (.inr v2)
  else
    some (.inr v2)
theorem fb_Y_keep_2 {w y : Prop} {g : g_S} {n : NS} {m : YS} (hy : y) {xv1 : Int32} {v1 : Int} (ev1 : xv1 = Int32.ofInt v1) (rv1 : inR v1) {xv2 : Int32} {v2 : Int} (ev2 : xv2 = Int32.ofInt v2) (rv2 : inR v2) (hR : RC w y g n m) : Rf (RS (fun a b => RI a b) (fun a b => RI a b)) (b_Y_keep_2 1838 xv1 xv2 g) (nb_Y_keep_2 v1 v2 m) := by
  subst ev1
  subst ev2
  unfold b_Y_keep_2 nb_Y_keep_2
  refine y_I hR hy yk26 yt26 (fun h1 => ?_)
  refine rf_lt rfl rfl rv2 h1 ?_ ?_
  · refine rf_ck (fun h3 => ?_)
    refine v_c (y_gt hR hy) ?_
    refine rf_bind (f_Y_alike hy (e_add (e_n 18) rfl) h3 (e_n 4) (show inR 4 by decide) hR) (fun a7 z5 h => ?_)
    obtain ⟨rfl, r6⟩ := h
    refine rf_eq rfl (e_n 0) (inZ.r r6) (show inR 0 by decide) ?_ ?_
    · refine rf_ck (fun h9 => ?_)
      exact rf_ok (by exact ⟨(e_add rfl (e_n 1)), h9⟩)
    · exact rf_ok (by exact ⟨rfl, rv2⟩)
  · exact rf_ok (by exact ⟨rfl, rv2⟩)
noncomputable def NL_Y_keep_2 (v1 : Int) (v2 : Int) (m : YS) : Option (Int) :=
  it (fun s : Int => nb_Y_keep_2 v1 s m) (v2)
theorem fL_Y_keep_2 {w y : Prop} {g : g_S} {n : NS} {m : YS} (hy : y) {xv1 : Int32} {v1 : Int} (ev1 : xv1 = Int32.ofInt v1) (rv1 : inR v1) {xv2 : Int32} {v2 : Int} (ev2 : xv2 = Int32.ofInt v2) (rv2 : inR v2) (hR : RC w y g n m) : Rf (fun a b => RI a b) (L_Y_keep_2 1838 xv1 xv2 g) (NL_Y_keep_2 v1 v2 m) := by
  subst ev1
  subst ev2
  unfold L_Y_keep_2 NL_Y_keep_2
  refine rf_it (I := (fun a b => RI a b)) (fun s t h => ?_) ⟨rfl, rv2⟩
  exact fb_Y_keep_2 hy rfl rv1 h.1 h.2 hR
theorem NL_Y_keep_2_eq (v1 : Int) (v2 : Int) (m : YS) : NL_Y_keep_2 v1 v2 m = itc (nb_Y_keep_2 v1 v2 m) (fun s => NL_Y_keep_2 v1 s m) := it_eq2 (fun s : Int => nb_Y_keep_2 v1 s m) (v2)
noncomputable def nb_Y_keep_38 (v1 : Int) (v2 : Int) (v3 : Int) (m : YS) : Option ((Int × Int) ⊕ (Int)) :=
  if v3 < 8 then
    ix v3 8 <|
    ix v2 8 <|
    if (m 29 v3) < (m 29 v2) then
      ck (v3 + 1) <|
      some (.inl (v3, v3 + 1))
    else
      ck (v3 + 1) <|
      some (.inl (v2, v3 + 1))
  else
    some (.inr v2)
theorem fb_Y_keep_38 {w y : Prop} {g : g_S} {n : NS} {m : YS} (hy : y) {xv1 : Int32} {v1 : Int} (ev1 : xv1 = Int32.ofInt v1) (rv1 : inR v1) {xv2 : Int32} {v2 : Int} (ev2 : xv2 = Int32.ofInt v2) (rv2 : inR v2) {xv3 : Int32} {v3 : Int} (ev3 : xv3 = Int32.ofInt v3) (rv3 : inR v3) (hR : RC w y g n m) : Rf (RS (fun a b => RI a.1 b.1 ∧ RI a.2 b.2) (fun a b => RI a b)) (b_Y_keep_38 1838 xv1 xv2 xv3 g) (nb_Y_keep_38 v1 v2 v3 m) := by
  subst ev1
  subst ev2
  subst ev3
  unfold b_Y_keep_38 nb_Y_keep_38
  refine rf_lt rfl (e_n 8) rv3 (show inR 8 by decide) ?_ ?_
  · refine y_Q hR hy ya29.1 (by decide) ?_
    refine y_aI hR hy ya29 yl29 rfl rv3 (fun h3 h4 => ?_)
    refine y_Q hR hy ya29.1 (by decide) ?_
    refine y_aI hR hy ya29 yl29 rfl rv2 (fun h6 h7 => ?_)
    refine rf_lt rfl rfl h4 h7 ?_ ?_
    · refine rf_ck (fun h9 => ?_)
      exact rf_ok (by exact ⟨⟨rfl, rv3⟩, ⟨(e_add rfl (e_n 1)), h9⟩⟩)
    · refine rf_ck (fun h10 => ?_)
      exact rf_ok (by exact ⟨⟨rfl, rv2⟩, ⟨(e_add rfl (e_n 1)), h10⟩⟩)
  · exact rf_ok (by exact ⟨rfl, rv2⟩)
noncomputable def NL_Y_keep_38 (v1 : Int) (v2 : Int) (v3 : Int) (m : YS) : Option (Int) :=
  it (fun s : Int × Int => nb_Y_keep_38 v1 s.1 s.2 m) (v2, v3)
theorem fL_Y_keep_38 {w y : Prop} {g : g_S} {n : NS} {m : YS} (hy : y) {xv1 : Int32} {v1 : Int} (ev1 : xv1 = Int32.ofInt v1) (rv1 : inR v1) {xv2 : Int32} {v2 : Int} (ev2 : xv2 = Int32.ofInt v2) (rv2 : inR v2) {xv3 : Int32} {v3 : Int} (ev3 : xv3 = Int32.ofInt v3) (rv3 : inR v3) (hR : RC w y g n m) : Rf (fun a b => RI a b) (L_Y_keep_38 1838 xv1 xv2 xv3 g) (NL_Y_keep_38 v1 v2 v3 m) := by
  subst ev1
  subst ev2
  subst ev3
  unfold L_Y_keep_38 NL_Y_keep_38
  refine rf_it (I := (fun a b => RI a.1 b.1 ∧ RI a.2 b.2)) (fun s t h => ?_) ⟨⟨rfl, rv2⟩, ⟨rfl, rv3⟩⟩
  exact fb_Y_keep_38 hy rfl rv1 h.1.1 h.1.2 h.2.1 h.2.2 hR
theorem NL_Y_keep_38_eq (v1 : Int) (v2 : Int) (v3 : Int) (m : YS) : NL_Y_keep_38 v1 v2 v3 m = itc (nb_Y_keep_38 v1 v2 v3 m) (fun s => NL_Y_keep_38 v1 s.1 s.2 m) := it_eq2 (fun s : Int × Int => nb_Y_keep_38 v1 s.1 s.2 m) (v2, v3)
noncomputable def nb_Y_keep_162 (v1 : Int) (v2 : Int) (v3 : Int) (v4 : Int) (m : YS) : Option ((Int × YS) ⊕ (YS)) :=
  ix v1 20 <|
  if v4 < (m 18 v1) then
    ck (v3 * 1500) <|
    ck ((v3 * 1500) + v4) <|
    ck (v1 * 1500) <|
    ck ((v1 * 1500) + v4) <|
    ix ((v1 * 1500) + v4) 30000 <|
    ix ((v3 * 1500) + v4) 30000 <|
    st (yw m 17 ((v3 * 1500) + v4) (m 17 ((v1 * 1500) + v4))) fun m14 =>
    ck (v4 + 1) <|
    some (.inl (v4 + 1, m14))
  else
    some (.inr m)
theorem fb_Y_keep_162 {w y : Prop} {g : g_S} {n : NS} {m : YS} (hy : y) {xv1 : Int32} {v1 : Int} (ev1 : xv1 = Int32.ofInt v1) (rv1 : inR v1) {xv2 : Int32} {v2 : Int} (ev2 : xv2 = Int32.ofInt v2) (rv2 : inR v2) {xv3 : Int32} {v3 : Int} (ev3 : xv3 = Int32.ofInt v3) (rv3 : inR v3) {xv4 : Int32} {v4 : Int} (ev4 : xv4 = Int32.ofInt v4) (rv4 : inR v4) (hR : RC w y g n m) : Rf (RS (fun a b => RI a.1 b.1 ∧ RC w y a.2 n b.2) (fun a b => RC w y a n b)) (b_Y_keep_162 1838 xv1 xv2 xv3 xv4 g) (nb_Y_keep_162 v1 v2 v3 v4 m) := by
  subst ev1
  subst ev2
  subst ev3
  subst ev4
  unfold b_Y_keep_162 nb_Y_keep_162
  refine y_Q hR hy ya18.1 (by decide) ?_
  refine y_aI hR hy ya18 yl18 rfl rv1 (fun h2 h3 => ?_)
  refine rf_lt rfl rfl rv4 h3 ?_ ?_
  · refine y_Q hR hy ya17.1 (by decide) ?_
    refine rf_ck (fun h6 => ?_)
    refine rf_ck (fun h7 => ?_)
    refine y_Q hR hy ya17.1 (by decide) ?_
    refine rf_ck (fun h9 => ?_)
    refine rf_ck (fun h10 => ?_)
    refine y_aB hR hy ya17 yl17 (e_add (e_mul rfl (e_n 1500)) rfl) h10 (fun h11 h12 => ?_)
    refine y_sB hR hy ya17 yl17 (e_add (e_mul rfl (e_n 1500)) rfl) h7 rfl h12 (fun g16 m14 hR15 => ?_)
    refine rf_ck (fun h17 => ?_)
    exact rf_ok (by exact ⟨⟨(e_add rfl (e_n 1)), h17⟩, hR15⟩)
  · exact rf_ok (by exact hR)
noncomputable def NL_Y_keep_162 (v1 : Int) (v2 : Int) (v3 : Int) (v4 : Int) (m : YS) : Option (YS) :=
  it (fun s : Int × YS => nb_Y_keep_162 v1 v2 v3 s.1 s.2) (v4, m)
theorem fL_Y_keep_162 {w y : Prop} {g : g_S} {n : NS} {m : YS} (hy : y) {xv1 : Int32} {v1 : Int} (ev1 : xv1 = Int32.ofInt v1) (rv1 : inR v1) {xv2 : Int32} {v2 : Int} (ev2 : xv2 = Int32.ofInt v2) (rv2 : inR v2) {xv3 : Int32} {v3 : Int} (ev3 : xv3 = Int32.ofInt v3) (rv3 : inR v3) {xv4 : Int32} {v4 : Int} (ev4 : xv4 = Int32.ofInt v4) (rv4 : inR v4) (hR : RC w y g n m) : Rf (fun a b => RC w y a n b) (L_Y_keep_162 1838 xv1 xv2 xv3 xv4 g) (NL_Y_keep_162 v1 v2 v3 v4 m) := by
  subst ev1
  subst ev2
  subst ev3
  subst ev4
  unfold L_Y_keep_162 NL_Y_keep_162
  refine rf_it (I := (fun a b => RI a.1 b.1 ∧ RC w y a.2 n b.2)) (fun s t h => ?_) ⟨⟨rfl, rv4⟩, hR⟩
  exact fb_Y_keep_162 hy rfl rv1 rfl rv2 rfl rv3 h.1.1 h.1.2 h.2
theorem NL_Y_keep_162_eq (v1 : Int) (v2 : Int) (v3 : Int) (v4 : Int) (m : YS) : NL_Y_keep_162 v1 v2 v3 v4 m = itc (nb_Y_keep_162 v1 v2 v3 v4 m) (fun s => NL_Y_keep_162 v1 v2 v3 s.1 s.2) := it_eq2 (fun s : Int × YS => nb_Y_keep_162 v1 v2 v3 s.1 s.2) (v4, m)
noncomputable def nk_Y_keep_238 (v1 : Int) (v3 : Int) (m : YS) : Option (YS) :=
  ix v1 20 <|
  ix v3 20 <|
  st (yw m 24 v3 (m 24 v1)) fun m6 =>
  some m6
theorem fk_Y_keep_238 {w y : Prop} {g : g_S} {n : NS} {m : YS} (hy : y) {xv1 : Int32} {v1 : Int} (ev1 : xv1 = Int32.ofInt v1) (rv1 : inR v1) {xv3 : Int32} {v3 : Int} (ev3 : xv3 = Int32.ofInt v3) (rv3 : inR v3) (hR : RC w y g n m) : Rf (fun a b => RC w y a n b) (k_Y_keep_238 1838 xv1 xv3 g) (nk_Y_keep_238 v1 v3 m) := by
  subst ev1
  subst ev3
  unfold k_Y_keep_238 nk_Y_keep_238
  refine y_Q hR hy ya24.1 (by decide) ?_
  refine y_Q hR hy ya24.1 (by decide) ?_
  refine y_aZ hR hy ya24 yl24 rfl rv1 (fun h3 h4 => ?_)
  refine y_sZ hR hy ya24 yl24 rfl rv3 rfl h4 (fun g8 m6 hR7 => ?_)
  exact rf_ok (by exact hR7)
noncomputable def nk_Y_keep_93 (v1 : Int) (v2 : Int) (w0 : Int) (m : YS) : Option (YS) :=
  st (yw m 26 0 w0) fun m2 =>
  ck (18 + v2) <|
  (N_Y_copyRow (18 + v2) 4 m2).bind fun m7 =>
  ix v1 12 <|
  ck ((m7 25 0) + (m7 19 v1)) <|
  ix v2 8 <|
  st (yw m7 28 v2 ((m7 25 0) + (m7 19 v1))) fun m17 =>
  ix v2 8 <|
  st (yw m17 29 v2 (m17 27 0)) fun m23 =>
  ck ((m23 27 0) + 1) <|
  st (yw m23 27 0 ((m23 27 0) + 1)) fun m29 =>
  ck (12 + v2) <|
  ix v1 20 <|
  ix (12 + v2) 20 <|
  st (yw m29 18 (12 + v2) (m29 18 v1)) fun m38 =>
  (NL_Y_keep_162 v1 v2 (12 + v2) 0 m38).bind <| fun m41 =>
  ix v1 20 <|
  ix (12 + v2) 20 <|
  st (yw m41 23 (12 + v2) (m41 23 v1)) fun m49 =>
  ix v1 20 <|
  if (m49 23 v1) = 0 then
    nk_Y_keep_238 v1 (12 + v2) m49
  else
    ck (58 + v2) <|
    ck (46 + v1) <|
    (N_Y_copyRow (58 + v2) (46 + v1) m49).bind fun m59 =>
    nk_Y_keep_238 v1 (12 + v2) m59
theorem fk_Y_keep_93 {w y : Prop} {g : g_S} {n : NS} {m : YS} (hy : y) {xv1 : Int32} {v1 : Int} (ev1 : xv1 = Int32.ofInt v1) (rv1 : inR v1) {xv2 : Int32} {v2 : Int} (ev2 : xv2 = Int32.ofInt v2) (rv2 : inR v2) {xw0 : Int32} {w0 : Int} (ew0 : xw0 = Int32.ofInt w0) (rw0 : inR w0) (hR : RC w y g n m) : Rf (fun a b => RC w y a n b) (k_Y_keep_93 1838 xv1 xv2 xw0 1838 g) (nk_Y_keep_93 v1 v2 w0 m) := by
  subst ev1
  subst ev2
  subst ew0
  unfold k_Y_keep_93 nk_Y_keep_93
  refine y_pI hR hy yk26 ⟨yt26, yz26⟩ rfl rw0 (fun g4 m2 hR3 => ?_)
  refine rf_ck (fun h5 => ?_)
  refine v_c (y_gt hR3 hy) ?_
  refine rf_bind (f_Y_copyRow hy (e_add (e_n 18) rfl) h5 (e_n 4) (show inR 4 by decide) hR3) (fun g9 m7 hR8 => ?_)
  refine y_Q hR8 hy ya28.1 (by decide) ?_
  refine y_I hR8 hy yk25 yt25 (fun h11 => ?_)
  refine y_Q hR8 hy ya19.1 (by decide) ?_
  refine y_aI hR8 hy ya19 yl19 rfl rv1 (fun h13 h14 => ?_)
  refine rf_ck (fun h15 => ?_)
  refine y_sI hR8 hy ya28 yl28 rfl rv2 (e_add rfl rfl) h15 (fun g19 m17 hR18 => ?_)
  refine y_Q hR18 hy ya29.1 (by decide) ?_
  refine y_I hR18 hy yk27 yt27 (fun h21 => ?_)
  refine y_sI hR18 hy ya29 yl29 rfl rv2 rfl h21 (fun g25 m23 hR24 => ?_)
  refine y_I hR24 hy yk27 yt27 (fun h26 => ?_)
  refine rf_ck (fun h27 => ?_)
  refine y_pI hR24 hy yk27 ⟨yt27, yz27⟩ (e_add rfl (e_n 1)) h27 (fun g31 m29 hR30 => ?_)
  refine rf_ck (fun h32 => ?_)
  refine y_Q hR30 hy ya18.1 (by decide) ?_
  refine y_Q hR30 hy ya18.1 (by decide) ?_
  refine y_aI hR30 hy ya18 yl18 rfl rv1 (fun h35 h36 => ?_)
  refine y_sI hR30 hy ya18 yl18 (e_add (e_n 12) rfl) h32 rfl h36 (fun g40 m38 hR39 => ?_)
  refine rf_bind (fL_Y_keep_162 hy rfl rv1 rfl rv2 (e_add (e_n 12) rfl) h32 (e_n 0) (show inR 0 by decide) hR39) (fun a42 m41 h => ?_)
  have hR43 : RC w y a42 n m41 := h
  refine y_Q hR43 hy ya23.1 (by decide) ?_
  refine y_Q hR43 hy ya23.1 (by decide) ?_
  refine y_aZ hR43 hy ya23 yl23 rfl rv1 (fun h46 h47 => ?_)
  refine y_sZ hR43 hy ya23 yl23 (e_add (e_n 12) rfl) h32 rfl h47 (fun g51 m49 hR50 => ?_)
  refine y_Q hR50 hy ya23.1 (by decide) ?_
  refine y_aZ hR50 hy ya23 yl23 rfl rv1 (fun h53 h54 => ?_)
  refine rf_eq rfl (e_n 0) (inZ.r h54) (show inR 0 by decide) ?_ ?_
  · exact fk_Y_keep_238 hy rfl rv1 (e_add (e_n 12) rfl) h32 hR50
  · refine rf_ck (fun h56 => ?_)
    refine rf_ck (fun h57 => ?_)
    refine v_c (y_gt hR50 hy) ?_
    refine rf_bind (f_Y_copyRow hy (e_add (e_n 58) rfl) h56 (e_add (e_n 46) rfl) h57 hR50) (fun g61 m59 hR60 => ?_)
    exact fk_Y_keep_238 hy rfl rv1 (e_add (e_n 12) rfl) h32 hR60
noncomputable def nk_Y_keep_71 (v1 : Int) (v2 : Int) (m : YS) : Option (YS) :=
  if v2 = (m 26 0) then
    ck ((m 26 0) + 1) <|
    nk_Y_keep_93 v1 v2 ((m 26 0) + 1) m
  else
    nk_Y_keep_93 v1 v2 (m 26 0) m
theorem fk_Y_keep_71 {w y : Prop} {g : g_S} {n : NS} {m : YS} (hy : y) {xv1 : Int32} {v1 : Int} (ev1 : xv1 = Int32.ofInt v1) (rv1 : inR v1) {xv2 : Int32} {v2 : Int} (ev2 : xv2 = Int32.ofInt v2) (rv2 : inR v2) (hR : RC w y g n m) : Rf (fun a b => RC w y a n b) (k_Y_keep_71 1838 xv1 xv2 g) (nk_Y_keep_71 v1 v2 m) := by
  subst ev1
  subst ev2
  unfold k_Y_keep_71 nk_Y_keep_71
  refine y_I hR hy yk26 yt26 (fun h1 => ?_)
  refine rf_eq rfl rfl rv2 h1 ?_ ?_
  · refine y_I hR hy yk26 yt26 (fun h3 => ?_)
    refine rf_ck (fun h4 => ?_)
    exact fk_Y_keep_93 hy rfl rv1 rfl rv2 (e_add rfl (e_n 1)) h4 hR
  · refine y_I hR hy yk26 yt26 (fun h5 => ?_)
    exact fk_Y_keep_93 hy rfl rv1 rfl rv2 rfl h5 hR
noncomputable def nk_Y_keep_28 (v1 : Int) (v2 : Int) (m : YS) : Option (YS) :=
  if v2 = 8 then
    (NL_Y_keep_38 v1 0 1 m).bind <| fun z2 =>
    nk_Y_keep_71 v1 z2 m
  else
    nk_Y_keep_71 v1 v2 m
theorem fk_Y_keep_28 {w y : Prop} {g : g_S} {n : NS} {m : YS} (hy : y) {xv1 : Int32} {v1 : Int} (ev1 : xv1 = Int32.ofInt v1) (rv1 : inR v1) {xv2 : Int32} {v2 : Int} (ev2 : xv2 = Int32.ofInt v2) (rv2 : inR v2) (hR : RC w y g n m) : Rf (fun a b => RC w y a n b) (k_Y_keep_28 1838 xv1 xv2 g) (nk_Y_keep_28 v1 v2 m) := by
  subst ev1
  subst ev2
  unfold k_Y_keep_28 nk_Y_keep_28
  refine rf_eq rfl (e_n 8) rv2 (show inR 8 by decide) ?_ ?_
  · refine rf_bind (fL_Y_keep_38 hy rfl rv1 (e_n 0) (show inR 0 by decide) (e_n 1) (show inR 1 by decide) hR) (fun a3 z2 h => ?_)
    obtain ⟨rfl, r4⟩ := (show RI a3 z2 from h)
    exact fk_Y_keep_71 hy rfl rv1 rfl r4 hR
  · exact fk_Y_keep_71 hy rfl rv1 rfl rv2 hR
noncomputable def N_Y_keep (v1 : Int) (m : YS) : Option (YS) :=
  (NL_Y_keep_2 v1 0 m).bind <| fun z1 =>
  nk_Y_keep_28 v1 z1 m
theorem f_Y_keep {w y : Prop} {g : g_S} {n : NS} {m : YS} (hy : y) {xv1 : Int32} {v1 : Int} (ev1 : xv1 = Int32.ofInt v1) (rv1 : inR v1) (hR : RC w y g n m) : Rf (fun a b => RC w y a n b) (M_Y_keep 1838 xv1 g) (N_Y_keep v1 m) := by
  subst ev1
  unfold M_Y_keep N_Y_keep
  refine rf_bind (fL_Y_keep_2 hy rfl rv1 (e_n 0) (show inR 0 by decide) hR) (fun a2 z1 h => ?_)
  obtain ⟨rfl, r3⟩ := (show RI a2 z1 from h)
  exact fk_Y_keep_28 hy rfl rv1 rfl r3 hR
noncomputable def nb_Y_request_22 (v1 : Int) (m : YS) : Option ((Int × YS) ⊕ (YS)) :=
  if v1 < (m 16 0) then
    ck (6 + v1) <|
    (N_Y_alike (6 + v1) 4 m).bind fun z5 =>
    if z5 = 0 then
      ck (v1 + 1) <|
      some (.inl (v1 + 1, m))
    else
      st (yw m 44 0 v1) fun m11 =>
      ck (v1 + 1) <|
      some (.inl (v1 + 1, m11))
  else
    some (.inr m)
theorem fb_Y_request_22 {w y : Prop} {g : g_S} {n : NS} {m : YS} (hy : y) {xv1 : Int32} {v1 : Int} (ev1 : xv1 = Int32.ofInt v1) (rv1 : inR v1) (hR : RC w y g n m) : Rf (RS (fun a b => RI a.1 b.1 ∧ RC w y a.2 n b.2) (fun a b => RC w y a n b)) (b_Y_request_22 1838 xv1 g) (nb_Y_request_22 v1 m) := by
  subst ev1
  unfold b_Y_request_22 nb_Y_request_22
  refine y_I hR hy yk16 yt16 (fun h1 => ?_)
  refine rf_lt rfl rfl rv1 h1 ?_ ?_
  · refine rf_ck (fun h3 => ?_)
    refine v_c (y_gt hR hy) ?_
    refine rf_bind (f_Y_alike hy (e_add (e_n 6) rfl) h3 (e_n 4) (show inR 4 by decide) hR) (fun a7 z5 h => ?_)
    obtain ⟨rfl, r6⟩ := h
    refine rf_eq rfl (e_n 0) (inZ.r r6) (show inR 0 by decide) ?_ ?_
    · refine rf_ck (fun h9 => ?_)
      exact rf_ok (by exact ⟨⟨(e_add rfl (e_n 1)), h9⟩, hR⟩)
    · refine y_pI hR hy yk44 ⟨yt44, yz44⟩ rfl rv1 (fun g13 m11 hR12 => ?_)
      refine rf_ck (fun h14 => ?_)
      exact rf_ok (by exact ⟨⟨(e_add rfl (e_n 1)), h14⟩, hR12⟩)
  · exact rf_ok (by exact hR)
noncomputable def NL_Y_request_22 (v1 : Int) (m : YS) : Option (YS) :=
  it (fun s : Int × YS => nb_Y_request_22 s.1 s.2) (v1, m)
theorem fL_Y_request_22 {w y : Prop} {g : g_S} {n : NS} {m : YS} (hy : y) {xv1 : Int32} {v1 : Int} (ev1 : xv1 = Int32.ofInt v1) (rv1 : inR v1) (hR : RC w y g n m) : Rf (fun a b => RC w y a n b) (L_Y_request_22 1838 xv1 g) (NL_Y_request_22 v1 m) := by
  subst ev1
  unfold L_Y_request_22 NL_Y_request_22
  refine rf_it (I := (fun a b => RI a.1 b.1 ∧ RC w y a.2 n b.2)) (fun s t h => ?_) ⟨⟨rfl, rv1⟩, hR⟩
  exact fb_Y_request_22 hy h.1.1 h.1.2 h.2
theorem NL_Y_request_22_eq (v1 : Int) (m : YS) : NL_Y_request_22 v1 m = itc (nb_Y_request_22 v1 m) (fun s => NL_Y_request_22 s.1 s.2) := it_eq2 (fun s : Int × YS => nb_Y_request_22 s.1 s.2) (v1, m)
noncomputable def nk_Y_request_81 (m : YS) : Option (YS) :=
  ix (m 44 0) 12 <|
  if 0 < (m 19 (m 44 0)) then
    (N_Y_keep (m 44 0) m).bind fun m8 =>
    some m8
  else
    some m
theorem fk_Y_request_81 {w y : Prop} {g : g_S} {n : NS} {m : YS} (hy : y) (hR : RC w y g n m) : Rf (fun a b => RC w y a n b) (k_Y_request_81 1838 g) (nk_Y_request_81 m) := by
  unfold k_Y_request_81 nk_Y_request_81
  refine y_Q hR hy ya19.1 (by decide) ?_
  refine y_I hR hy yk44 yt44 (fun h2 => ?_)
  refine y_aI hR hy ya19 yl19 rfl h2 (fun h3 h4 => ?_)
  refine rf_lt (e_n 0) rfl (show inR 0 by decide) h4 ?_ ?_
  · refine y_I hR hy yk44 yt44 (fun h6 => ?_)
    refine v_c (y_gt hR hy) ?_
    refine rf_bind (f_Y_keep hy rfl h6 hR) (fun g10 m8 hR9 => ?_)
    exact rf_ok (by exact hR9)
  · exact rf_ok (by exact hR)
noncomputable def N_Y_request (m : YS) : Option (YS) :=
  ck ((m 35 0) + 1) <|
  st (yw m 35 0 ((m 35 0) + 1)) fun m4 =>
  (N_Y_copyRow 2 4 m4).bind fun m8 =>
  (N_Y_tellCookies m8).bind fun m12 =>
  (NL_Y_request_22 0 m12).bind <| fun m15 =>
  if (m15 44 0) < 0 then
    some m15
  else
    ix (m15 44 0) 12 <|
    if 0 < (m15 21 (m15 44 0)) then
      (N_Y_dropCookie (m15 44 0) m15).bind fun m28 =>
      nk_Y_request_81 m28
    else
      nk_Y_request_81 m15
theorem f_Y_request {w y : Prop} {g : g_S} {n : NS} {m : YS} (hy : y) (hR : RC w y g n m) : Rf (fun a b => RC w y a n b) (M_Y_request 1838 g) (N_Y_request m) := by
  unfold M_Y_request N_Y_request
  refine y_I hR hy yk35 yt35 (fun h1 => ?_)
  refine rf_ck (fun h2 => ?_)
  refine y_pI hR hy yk35 ⟨yt35, yz35⟩ (e_add rfl (e_n 1)) h2 (fun g6 m4 hR5 => ?_)
  refine v_c (y_gt hR5 hy) ?_
  refine rf_bind (f_Y_copyRow hy (e_n 2) (show inR 2 by decide) (e_n 4) (show inR 4 by decide) hR5) (fun g10 m8 hR9 => ?_)
  refine v_c (y_gt hR9 hy) ?_
  refine rf_bind (f_Y_tellCookies hy hR9) (fun g14 m12 hR13 => ?_)
  refine rf_bind (fL_Y_request_22 hy (e_n 0) (show inR 0 by decide) hR13) (fun a16 m15 h => ?_)
  have hR17 : RC w y a16 n m15 := h
  refine y_I hR17 hy yk44 yt44 (fun h18 => ?_)
  refine rf_lt rfl (e_n 0) h18 (show inR 0 by decide) ?_ ?_
  · exact rf_ok (by exact hR17)
  · refine y_Q hR17 hy ya21.1 (by decide) ?_
    refine y_I hR17 hy yk44 yt44 (fun h22 => ?_)
    refine y_aI hR17 hy ya21 yl21 rfl h22 (fun h23 h24 => ?_)
    refine rf_lt (e_n 0) rfl (show inR 0 by decide) h24 ?_ ?_
    · refine y_I hR17 hy yk44 yt44 (fun h26 => ?_)
      refine v_c (y_gt hR17 hy) ?_
      refine rf_bind (f_Y_dropCookie hy rfl h26 hR17) (fun g30 m28 hR29 => ?_)
      exact fk_Y_request_81 hy hR29
    · exact fk_Y_request_81 hy hR17
noncomputable def nb_Y_fetch_28 (v2 : Int) (v3 : Int) (m : YS) : Option ((Int × YS) ⊕ (YS)) :=
  if v3 < (m 26 0) then
    ck (18 + v3) <|
    (N_Y_alike (18 + v3) 4 m).bind fun z5 =>
    if z5 = 0 then
      ck (v3 + 1) <|
      some (.inl (v3 + 1, m))
    else
      ix v3 8 <|
      if (m 25 0) < (m 28 v3) then
        ck (12 + v3) <|
        st (yw m 44 0 (12 + v3)) fun m17 =>
        ck (v3 + 1) <|
        some (.inl (v3 + 1, m17))
      else
        ck (v3 + 1) <|
        some (.inl (v3 + 1, m))
  else
    some (.inr m)
theorem fb_Y_fetch_28 {w y : Prop} {g : g_S} {n : NS} {m : YS} (hy : y) {xv2 : Int32} {v2 : Int} (ev2 : xv2 = Int32.ofInt v2) (rv2 : inR v2) {xv3 : Int32} {v3 : Int} (ev3 : xv3 = Int32.ofInt v3) (rv3 : inR v3) (hR : RC w y g n m) : Rf (RS (fun a b => RI a.1 b.1 ∧ RC w y a.2 n b.2) (fun a b => RC w y a n b)) (b_Y_fetch_28 1838 xv2 xv3 g) (nb_Y_fetch_28 v2 v3 m) := by
  subst ev2
  subst ev3
  unfold b_Y_fetch_28 nb_Y_fetch_28
  refine y_I hR hy yk26 yt26 (fun h1 => ?_)
  refine rf_lt rfl rfl rv3 h1 ?_ ?_
  · refine rf_ck (fun h3 => ?_)
    refine v_c (y_gt hR hy) ?_
    refine rf_bind (f_Y_alike hy (e_add (e_n 18) rfl) h3 (e_n 4) (show inR 4 by decide) hR) (fun a7 z5 h => ?_)
    obtain ⟨rfl, r6⟩ := h
    refine rf_eq rfl (e_n 0) (inZ.r r6) (show inR 0 by decide) ?_ ?_
    · refine rf_ck (fun h9 => ?_)
      exact rf_ok (by exact ⟨⟨(e_add rfl (e_n 1)), h9⟩, hR⟩)
    · refine y_Q hR hy ya28.1 (by decide) ?_
      refine y_aI hR hy ya28 yl28 rfl rv3 (fun h11 h12 => ?_)
      refine y_I hR hy yk25 yt25 (fun h13 => ?_)
      refine rf_lt rfl rfl h13 h12 ?_ ?_
      · refine rf_ck (fun h15 => ?_)
        refine y_pI hR hy yk44 ⟨yt44, yz44⟩ (e_add (e_n 12) rfl) h15 (fun g19 m17 hR18 => ?_)
        refine rf_ck (fun h20 => ?_)
        exact rf_ok (by exact ⟨⟨(e_add rfl (e_n 1)), h20⟩, hR18⟩)
      · refine rf_ck (fun h21 => ?_)
        exact rf_ok (by exact ⟨⟨(e_add rfl (e_n 1)), h21⟩, hR⟩)
  · exact rf_ok (by exact hR)
noncomputable def NL_Y_fetch_28 (v2 : Int) (v3 : Int) (m : YS) : Option (YS) :=
  it (fun s : Int × YS => nb_Y_fetch_28 v2 s.1 s.2) (v3, m)
theorem fL_Y_fetch_28 {w y : Prop} {g : g_S} {n : NS} {m : YS} (hy : y) {xv2 : Int32} {v2 : Int} (ev2 : xv2 = Int32.ofInt v2) (rv2 : inR v2) {xv3 : Int32} {v3 : Int} (ev3 : xv3 = Int32.ofInt v3) (rv3 : inR v3) (hR : RC w y g n m) : Rf (fun a b => RC w y a n b) (L_Y_fetch_28 1838 xv2 xv3 g) (NL_Y_fetch_28 v2 v3 m) := by
  subst ev2
  subst ev3
  unfold L_Y_fetch_28 NL_Y_fetch_28
  refine rf_it (I := (fun a b => RI a.1 b.1 ∧ RC w y a.2 n b.2)) (fun s t h => ?_) ⟨⟨rfl, rv3⟩, hR⟩
  exact fb_Y_fetch_28 hy rfl rv2 h.1.1 h.1.2 h.2
theorem NL_Y_fetch_28_eq (v2 : Int) (v3 : Int) (m : YS) : NL_Y_fetch_28 v2 v3 m = itc (nb_Y_fetch_28 v2 v3 m) (fun s => NL_Y_fetch_28 v2 s.1 s.2) := it_eq2 (fun s : Int × YS => nb_Y_fetch_28 v2 s.1 s.2) (v3, m)
noncomputable def nk_Y_fetch_162 (v1 : Int) (v2 : Int) (w0 : Int) (w1 : Int) (m : YS) : Option ((Int × Int × YS) ⊕ (YS)) :=
  (N_Y_copyRow w1 w0 m).bind fun m2 =>
  ck (v2 + 1) <|
  some (.inl (v1, v2 + 1, m2))
theorem fk_Y_fetch_162 {w y : Prop} {g : g_S} {n : NS} {m : YS} (hy : y) {xv1 : Int32} {v1 : Int} (ev1 : xv1 = Int32.ofInt v1) (rv1 : inR v1) {xv2 : Int32} {v2 : Int} (ev2 : xv2 = Int32.ofInt v2) (rv2 : inR v2) {xw0 : Int32} {w0 : Int} (ew0 : xw0 = Int32.ofInt w0) (rw0 : inR w0) {xw1 : Int32} {w1 : Int} (ew1 : xw1 = Int32.ofInt w1) (rw1 : inR w1) (hR : RC w y g n m) : Rf (RS (fun a b => RI a.1 b.1 ∧ RI a.2.1 b.2.1 ∧ RC w y a.2.2 n b.2.2) (fun a b => RC w y a n b)) (k_Y_fetch_162 1838 xv1 xv2 xw0 xw1 1838 g) (nk_Y_fetch_162 v1 v2 w0 w1 m) := by
  subst ev1
  subst ev2
  subst ew0
  subst ew1
  unfold k_Y_fetch_162 nk_Y_fetch_162
  refine v_c (y_gt hR hy) ?_
  refine rf_bind (f_Y_copyRow hy rfl rw1 rfl rw0 hR) (fun g4 m2 hR3 => ?_)
  refine rf_ck (fun h5 => ?_)
  exact rf_ok (by exact ⟨⟨rfl, rv1⟩, ⟨(e_add rfl (e_n 1)), h5⟩, hR3⟩)
noncomputable def nk_Y_fetch_127 (v1 : Int) (v2 : Int) (m : YS) : Option ((Int × Int × YS) ⊕ (YS)) :=
  if v1 = 0 then
    ck (v2 + 1) <|
    some (.inl (v1, v2 + 1, m))
  else
    if (m 44 0) < 12 then
      ck (46 + (m 44 0)) <|
      nk_Y_fetch_162 v1 v2 (46 + (m 44 0)) 4 m
    else
      ck (58 + (m 44 0)) <|
      ck ((58 + (m 44 0)) - 12) <|
      nk_Y_fetch_162 v1 v2 ((58 + (m 44 0)) - 12) 4 m
theorem fk_Y_fetch_127 {w y : Prop} {g : g_S} {n : NS} {m : YS} (hy : y) {xv1 : Int32} {v1 : Int} (ev1 : xv1 = Int32.ofInt v1) (rv1 : inR v1) {xv2 : Int32} {v2 : Int} (ev2 : xv2 = Int32.ofInt v2) (rv2 : inR v2) (hR : RC w y g n m) : Rf (RS (fun a b => RI a.1 b.1 ∧ RI a.2.1 b.2.1 ∧ RC w y a.2.2 n b.2.2) (fun a b => RC w y a n b)) (k_Y_fetch_127 1838 xv1 xv2 g) (nk_Y_fetch_127 v1 v2 m) := by
  subst ev1
  subst ev2
  unfold k_Y_fetch_127 nk_Y_fetch_127
  refine rf_eq rfl (e_n 0) rv1 (show inR 0 by decide) ?_ ?_
  · refine rf_ck (fun h2 => ?_)
    exact rf_ok (by exact ⟨⟨rfl, rv1⟩, ⟨(e_add rfl (e_n 1)), h2⟩, hR⟩)
  · refine y_I hR hy yk44 yt44 (fun h3 => ?_)
    refine rf_lt rfl (e_n 12) h3 (show inR 12 by decide) ?_ ?_
    · refine y_I hR hy yk44 yt44 (fun h5 => ?_)
      refine rf_ck (fun h6 => ?_)
      exact fk_Y_fetch_162 hy rfl rv1 rfl rv2 (e_add (e_n 46) rfl) h6 (e_n 4) (show inR 4 by decide) hR
    · refine y_I hR hy yk44 yt44 (fun h7 => ?_)
      refine rf_ck (fun h8 => ?_)
      refine rf_ck (fun h9 => ?_)
      exact fk_Y_fetch_162 hy rfl rv1 rfl rv2 (e_sub (e_add (e_n 58) rfl) (e_n 12)) h9 (e_n 4) (show inR 4 by decide) hR
noncomputable def nk_Y_fetch_110 (v2 : Int) (w0 : Int) (m : YS) : Option ((Int × Int × YS) ⊕ (YS)) :=
  if w0 = 0 then
    nk_Y_fetch_127 w0 v2 m
  else
    if v2 = 5 then
      st (yw m 44 0 (-1)) fun m4 =>
      nk_Y_fetch_127 0 v2 m4
    else
      nk_Y_fetch_127 w0 v2 m
theorem fk_Y_fetch_110 {w y : Prop} {g : g_S} {n : NS} {m : YS} (hy : y) {xv2 : Int32} {v2 : Int} (ev2 : xv2 = Int32.ofInt v2) (rv2 : inR v2) {xw0 : Int32} {w0 : Int} (ew0 : xw0 = Int32.ofInt w0) (rw0 : inR w0) (hR : RC w y g n m) : Rf (RS (fun a b => RI a.1 b.1 ∧ RI a.2.1 b.2.1 ∧ RC w y a.2.2 n b.2.2) (fun a b => RC w y a n b)) (k_Y_fetch_110 1838 xv2 xw0 g) (nk_Y_fetch_110 v2 w0 m) := by
  subst ev2
  subst ew0
  unfold k_Y_fetch_110 nk_Y_fetch_110
  refine rf_eq rfl (e_n 0) rw0 (show inR 0 by decide) ?_ ?_
  · exact fk_Y_fetch_127 hy rfl rw0 rfl rv2 hR
  · refine rf_eq rfl (e_n 5) rv2 (show inR 5 by decide) ?_ ?_
    · refine y_pI hR hy yk44 ⟨yt44, yz44⟩ (e_m 1) (show inR (-1) by decide) (fun g6 m4 hR5 => ?_)
      exact fk_Y_fetch_127 hy (e_n 0) (show inR 0 by decide) rfl rv2 hR5
    · exact fk_Y_fetch_127 hy rfl rw0 rfl rv2 hR
noncomputable def nk_Y_fetch_109 (v2 : Int) (m : YS) : Option ((Int × Int × YS) ⊕ (YS)) :=
  nk_Y_fetch_110 v2 0 m
theorem fk_Y_fetch_109 {w y : Prop} {g : g_S} {n : NS} {m : YS} (hy : y) {xv2 : Int32} {v2 : Int} (ev2 : xv2 = Int32.ofInt v2) (rv2 : inR v2) (hR : RC w y g n m) : Rf (RS (fun a b => RI a.1 b.1 ∧ RI a.2.1 b.2.1 ∧ RC w y a.2.2 n b.2.2) (fun a b => RC w y a n b)) (k_Y_fetch_109 1838 xv2 g) (nk_Y_fetch_109 v2 m) := by
  subst ev2
  unfold k_Y_fetch_109 nk_Y_fetch_109
  exact fk_Y_fetch_110 hy rfl rv2 (e_n 0) (show inR 0 by decide) hR
noncomputable def nk_Y_fetch_86 (v2 : Int) (m : YS) : Option ((Int × Int × YS) ⊕ (YS)) :=
  if (m 44 0) < 0 then
    nk_Y_fetch_109 v2 m
  else
    ix (m 44 0) 20 <|
    if (m 23 (m 44 0)) = 0 then
      nk_Y_fetch_109 v2 m
    else
      nk_Y_fetch_110 v2 1 m
theorem fk_Y_fetch_86 {w y : Prop} {g : g_S} {n : NS} {m : YS} (hy : y) {xv2 : Int32} {v2 : Int} (ev2 : xv2 = Int32.ofInt v2) (rv2 : inR v2) (hR : RC w y g n m) : Rf (RS (fun a b => RI a.1 b.1 ∧ RI a.2.1 b.2.1 ∧ RC w y a.2.2 n b.2.2) (fun a b => RC w y a n b)) (k_Y_fetch_86 1838 xv2 g) (nk_Y_fetch_86 v2 m) := by
  subst ev2
  unfold k_Y_fetch_86 nk_Y_fetch_86
  refine y_I hR hy yk44 yt44 (fun h1 => ?_)
  refine rf_lt rfl (e_n 0) h1 (show inR 0 by decide) ?_ ?_
  · exact fk_Y_fetch_109 hy rfl rv2 hR
  · refine y_Q hR hy ya23.1 (by decide) ?_
    refine y_I hR hy yk44 yt44 (fun h4 => ?_)
    refine y_aZ hR hy ya23 yl23 rfl h4 (fun h5 h6 => ?_)
    refine rf_eq rfl (e_n 0) (inZ.r h6) (show inR 0 by decide) ?_ ?_
    · exact fk_Y_fetch_109 hy rfl rv2 hR
    · exact fk_Y_fetch_110 hy rfl rv2 (e_n 1) (show inR 1 by decide) hR
noncomputable def nb_Y_fetch_17 (v1 : Int) (v2 : Int) (m : YS) : Option ((Int × Int × YS) ⊕ (YS)) :=
  if v1 = 0 then
    some (.inr m)
  else
    st (yw m 44 0 (-1)) fun m3 =>
    (NL_Y_fetch_28 v2 0 m3).bind <| fun m6 =>
    if (m6 44 0) < 0 then
      (N_Y_request m6).bind fun m12 =>
      nk_Y_fetch_86 v2 m12
    else
      nk_Y_fetch_86 v2 m6
theorem fb_Y_fetch_17 {w y : Prop} {g : g_S} {n : NS} {m : YS} (hy : y) {xv1 : Int32} {v1 : Int} (ev1 : xv1 = Int32.ofInt v1) (rv1 : inR v1) {xv2 : Int32} {v2 : Int} (ev2 : xv2 = Int32.ofInt v2) (rv2 : inR v2) (hR : RC w y g n m) : Rf (RS (fun a b => RI a.1 b.1 ∧ RI a.2.1 b.2.1 ∧ RC w y a.2.2 n b.2.2) (fun a b => RC w y a n b)) (b_Y_fetch_17 1838 xv1 xv2 g) (nb_Y_fetch_17 v1 v2 m) := by
  subst ev1
  subst ev2
  unfold b_Y_fetch_17 nb_Y_fetch_17
  refine rf_eq rfl (e_n 0) rv1 (show inR 0 by decide) ?_ ?_
  · exact rf_ok (by exact hR)
  · refine y_pI hR hy yk44 ⟨yt44, yz44⟩ (e_m 1) (show inR (-1) by decide) (fun g5 m3 hR4 => ?_)
    refine rf_bind (fL_Y_fetch_28 hy rfl rv2 (e_n 0) (show inR 0 by decide) hR4) (fun a7 m6 h => ?_)
    have hR8 : RC w y a7 n m6 := h
    refine y_I hR8 hy yk44 yt44 (fun h9 => ?_)
    refine rf_lt rfl (e_n 0) h9 (show inR 0 by decide) ?_ ?_
    · refine v_c (y_gt hR8 hy) ?_
      refine rf_bind (f_Y_request hy hR8) (fun g14 m12 hR13 => ?_)
      exact fk_Y_fetch_86 hy rfl rv2 hR13
    · exact fk_Y_fetch_86 hy rfl rv2 hR8
noncomputable def NL_Y_fetch_17 (v1 : Int) (v2 : Int) (m : YS) : Option (YS) :=
  it (fun s : Int × Int × YS => nb_Y_fetch_17 s.1 s.2.1 s.2.2) (v1, v2, m)
theorem fL_Y_fetch_17 {w y : Prop} {g : g_S} {n : NS} {m : YS} (hy : y) {xv1 : Int32} {v1 : Int} (ev1 : xv1 = Int32.ofInt v1) (rv1 : inR v1) {xv2 : Int32} {v2 : Int} (ev2 : xv2 = Int32.ofInt v2) (rv2 : inR v2) (hR : RC w y g n m) : Rf (fun a b => RC w y a n b) (L_Y_fetch_17 1838 xv1 xv2 g) (NL_Y_fetch_17 v1 v2 m) := by
  subst ev1
  subst ev2
  unfold L_Y_fetch_17 NL_Y_fetch_17
  refine rf_it (I := (fun a b => RI a.1 b.1 ∧ RI a.2.1 b.2.1 ∧ RC w y a.2.2 n b.2.2)) (fun s t h => ?_) ⟨⟨rfl, rv1⟩, ⟨rfl, rv2⟩, hR⟩
  exact fb_Y_fetch_17 hy h.1.1 h.1.2 h.2.1.1 h.2.1.2 h.2.2
theorem NL_Y_fetch_17_eq (v1 : Int) (v2 : Int) (m : YS) : NL_Y_fetch_17 v1 v2 m = itc (nb_Y_fetch_17 v1 v2 m) (fun s => NL_Y_fetch_17 s.1 s.2.1 s.2.2) := it_eq2 (fun s : Int × Int × YS => nb_Y_fetch_17 s.1 s.2.1 s.2.2) (v1, v2, m)
noncomputable def N_Y_fetch (m : YS) : Option (YS) :=
  (N_Y_copyRow 4 0 m).bind fun m2 =>
  ix 4 66 <|
  st (yw m2 8 4 0) fun m7 =>
  (NL_Y_fetch_17 1 0 m7).bind <| fun m10 =>
  some m10
theorem f_Y_fetch {w y : Prop} {g : g_S} {n : NS} {m : YS} (hy : y) (hR : RC w y g n m) : Rf (fun a b => RC w y a n b) (M_Y_fetch 1838 g) (N_Y_fetch m) := by
  unfold M_Y_fetch N_Y_fetch
  refine v_c (y_gt hR hy) ?_
  refine rf_bind (f_Y_copyRow hy (e_n 4) (show inR 4 by decide) (e_n 0) (show inR 0 by decide) hR) (fun g4 m2 hR3 => ?_)
  refine y_Q hR3 hy ya8.1 (by decide) ?_
  refine y_sI hR3 hy ya8 yl8 (e_n 4) (show inR 4 by decide) (e_n 0) (show inR 0 by decide) (fun g9 m7 hR8 => ?_)
  refine rf_bind (fL_Y_fetch_17 hy (e_n 1) (show inR 1 by decide) (e_n 0) (show inR 0 by decide) hR8) (fun a11 m10 h => ?_)
  have hR12 : RC w y a11 n m10 := h
  exact rf_ok (by exact hR12)
noncomputable def N_Y_isAt (v1 : Int) (v2 : Int) (v3 : Int) (v4 : Int) (m : YS) : Option (Int) :=
  ck (v1 + 2) <|
  if (v1 + 2) < (m 76 0) then
    ix v1 2000 <|
    if (m 75 v1) = v2 then
      ck (v1 + 1) <|
      ix (v1 + 1) 2000 <|
      if (m 75 (v1 + 1)) = v3 then
        ck (v1 + 2) <|
        ix (v1 + 2) 2000 <|
        if (m 75 (v1 + 2)) = v4 then
          some 1
        else
          some 0
      else
        some 0
    else
      some 0
  else
    some 0
theorem f_Y_isAt {w y : Prop} {g : g_S} {n : NS} {m : YS} (hy : y) {xv1 : Int32} {v1 : Int} (ev1 : xv1 = Int32.ofInt v1) (rv1 : inR v1) {xv2 : Int32} {v2 : Int} (ev2 : xv2 = Int32.ofInt v2) (rv2 : inR v2) {xv3 : Int32} {v3 : Int} (ev3 : xv3 = Int32.ofInt v3) (rv3 : inR v3) {xv4 : Int32} {v4 : Int} (ev4 : xv4 = Int32.ofInt v4) (rv4 : inR v4) (hR : RC w y g n m) : Rf (fun a b => RZ a b) (M_Y_isAt 1838 xv1 xv2 xv3 xv4 g) (N_Y_isAt v1 v2 v3 v4 m) := by
  subst ev1
  subst ev2
  subst ev3
  subst ev4
  unfold M_Y_isAt N_Y_isAt
  refine rf_ck (fun h1 => ?_)
  refine y_I hR hy yk76 yt76 (fun h2 => ?_)
  refine rf_lt (e_add rfl (e_n 2)) rfl h1 h2 ?_ ?_
  · refine y_Q hR hy ya75.1 (by decide) ?_
    refine y_aB hR hy ya75 yl75 rfl rv1 (fun h5 h6 => ?_)
    refine rf_eq rfl rfl (inB.r h6) rv2 ?_ ?_
    · refine y_Q hR hy ya75.1 (by decide) ?_
      refine rf_ck (fun h9 => ?_)
      refine y_aB hR hy ya75 yl75 (e_add rfl (e_n 1)) h9 (fun h10 h11 => ?_)
      refine rf_eq rfl rfl (inB.r h11) rv3 ?_ ?_
      · refine y_Q hR hy ya75.1 (by decide) ?_
        refine rf_ck (fun h14 => ?_)
        refine y_aB hR hy ya75 yl75 (e_add rfl (e_n 2)) h14 (fun h15 h16 => ?_)
        refine rf_eq rfl rfl (inB.r h16) rv4 ?_ ?_
        · exact rf_ok (by exact ⟨(e_n 1), (.inr rfl)⟩)
        · exact rf_ok (by exact ⟨(e_n 0), (.inl rfl)⟩)
      · exact rf_ok (by exact ⟨(e_n 0), (.inl rfl)⟩)
    · exact rf_ok (by exact ⟨(e_n 0), (.inl rfl)⟩)
  · exact rf_ok (by exact ⟨(e_n 0), (.inl rfl)⟩)
noncomputable def N_Y_tagWord (v0 : Int) (m : YS) : Option (Int) :=
  if v0 = 0 then
    some 22820
  else if v0 = 1 then
    some 16
  else if v0 = 2 then
    some 8
  else if v0 = 3 then
    some 405
  else if v0 = 4 then
    some 300
  else if v0 = 5 then
    some 444902
  else if v0 = 6 then
    some 460307
  else if v0 = 7 then
    some 1
  else if v0 = 8 then
    some 2
  else if v0 = 9 then
    some 9
  else if v0 = 10 then
    some 578
  else if v0 = 11 then
    some 584
  else if v0 = 12 then
    some 7593
  else if v0 = 13 then
    some 21676489
  else if v0 = 14 then
    some 486167202
  else
    some 5662355
theorem f_Y_tagWord {w y : Prop} {g : g_S} {n : NS} {m : YS} (hy : y) {xv0 : Int32} {v0 : Int} (ev0 : xv0 = Int32.ofInt v0) (rv0 : inR v0) (hR : RC w y g n m) : Rf (fun a b => RJ a b) (M_Y_tagWord xv0 g) (N_Y_tagWord v0 m) := by
  subst ev0
  unfold M_Y_tagWord N_Y_tagWord
  refine rf_eq rfl (e_n 0) rv0 (show inR 0 by decide) ?_ ?_
  · exact rf_ok (by exact ⟨(f_n 22820), (show inL 22820 by decide)⟩)
  refine rf_eq rfl (e_n 1) rv0 (show inR 1 by decide) ?_ ?_
  · exact rf_ok (by exact ⟨(f_n 16), (show inL 16 by decide)⟩)
  refine rf_eq rfl (e_n 2) rv0 (show inR 2 by decide) ?_ ?_
  · exact rf_ok (by exact ⟨(f_n 8), (show inL 8 by decide)⟩)
  refine rf_eq rfl (e_n 3) rv0 (show inR 3 by decide) ?_ ?_
  · exact rf_ok (by exact ⟨(f_n 405), (show inL 405 by decide)⟩)
  refine rf_eq rfl (e_n 4) rv0 (show inR 4 by decide) ?_ ?_
  · exact rf_ok (by exact ⟨(f_n 300), (show inL 300 by decide)⟩)
  refine rf_eq rfl (e_n 5) rv0 (show inR 5 by decide) ?_ ?_
  · exact rf_ok (by exact ⟨(f_n 444902), (show inL 444902 by decide)⟩)
  refine rf_eq rfl (e_n 6) rv0 (show inR 6 by decide) ?_ ?_
  · exact rf_ok (by exact ⟨(f_n 460307), (show inL 460307 by decide)⟩)
  refine rf_eq rfl (e_n 7) rv0 (show inR 7 by decide) ?_ ?_
  · exact rf_ok (by exact ⟨(f_n 1), (show inL 1 by decide)⟩)
  refine rf_eq rfl (e_n 8) rv0 (show inR 8 by decide) ?_ ?_
  · exact rf_ok (by exact ⟨(f_n 2), (show inL 2 by decide)⟩)
  refine rf_eq rfl (e_n 9) rv0 (show inR 9 by decide) ?_ ?_
  · exact rf_ok (by exact ⟨(f_n 9), (show inL 9 by decide)⟩)
  refine rf_eq rfl (e_n 10) rv0 (show inR 10 by decide) ?_ ?_
  · exact rf_ok (by exact ⟨(f_n 578), (show inL 578 by decide)⟩)
  refine rf_eq rfl (e_n 11) rv0 (show inR 11 by decide) ?_ ?_
  · exact rf_ok (by exact ⟨(f_n 584), (show inL 584 by decide)⟩)
  refine rf_eq rfl (e_n 12) rv0 (show inR 12 by decide) ?_ ?_
  · exact rf_ok (by exact ⟨(f_n 7593), (show inL 7593 by decide)⟩)
  refine rf_eq rfl (e_n 13) rv0 (show inR 13 by decide) ?_ ?_
  · exact rf_ok (by exact ⟨(f_n 21676489), (show inL 21676489 by decide)⟩)
  refine rf_eq rfl (e_n 14) rv0 (show inR 14 by decide) ?_ ?_
  · exact rf_ok (by exact ⟨(f_n 486167202), (show inL 486167202 by decide)⟩)
  exact rf_ok (by exact ⟨(f_n 5662355), (show inL 5662355 by decide)⟩)
noncomputable def N_Y_endsStyle (v1 : Int) (m : YS) : Option (Int) :=
  (N_Y_isAt v1 60 47 115 m).bind fun z2 =>
  if z2 = 0 then
    some 0
  else
    ck (v1 + 2) <|
    (N_Y_tagWord 15 m).bind fun z11 =>
    (N_Y_isWord 75 (v1 + 2) (m 76 0) z11 m).bind fun z15 =>
    if z15 = 0 then
      some 0
    else
      some 1
theorem f_Y_endsStyle {w y : Prop} {g : g_S} {n : NS} {m : YS} (hy : y) {xv1 : Int32} {v1 : Int} (ev1 : xv1 = Int32.ofInt v1) (rv1 : inR v1) (hR : RC w y g n m) : Rf (fun a b => RZ a b) (M_Y_endsStyle 1838 xv1 g) (N_Y_endsStyle v1 m) := by
  subst ev1
  unfold M_Y_endsStyle N_Y_endsStyle
  refine v_c (y_gt hR hy) ?_
  refine rf_bind (f_Y_isAt hy rfl rv1 (e_n 60) (show inR 60 by decide) (e_n 47) (show inR 47 by decide) (e_n 115) (show inR 115 by decide) hR) (fun a4 z2 h => ?_)
  obtain ⟨rfl, r3⟩ := h
  refine rf_eq rfl (e_n 0) (inZ.r r3) (show inR 0 by decide) ?_ ?_
  · exact rf_ok (by exact ⟨(e_n 0), (.inl rfl)⟩)
  · refine y_Q hR hy ya75.1 (by decide) ?_
    refine rf_ck (fun h8 => ?_)
    refine y_I hR hy yk76 yt76 (fun h9 => ?_)
    refine rf_bind (f_Y_tagWord hy (e_n 15) (show inR 15 by decide) hR) (fun a13 z11 h => ?_)
    obtain ⟨rfl, r12⟩ := h
    refine rf_bind (f_Y_isWord hy rfl ya75 (e_add rfl (e_n 2)) h8 rfl h9 rfl r12 hR) (fun a17 z15 h => ?_)
    obtain ⟨rfl, r16⟩ := h
    refine rf_eq rfl (e_n 0) (inZ.r r16) (show inR 0 by decide) ?_ ?_
    · exact rf_ok (by exact ⟨(e_n 0), (.inl rfl)⟩)
    · exact rf_ok (by exact ⟨(e_n 1), (.inr rfl)⟩)
noncomputable def N_Y_isNote (v1 : Int) (m : YS) : Option (Int) :=
  (N_Y_isAt v1 60 33 45 m).bind fun z2 =>
  if z2 = 0 then
    some 0
  else
    ck (v1 + 3) <|
    if (v1 + 3) < (m 76 0) then
      ck (v1 + 3) <|
      ix (v1 + 3) 2000 <|
      if (m 75 (v1 + 3)) = 45 then
        some 1
      else
        some 0
    else
      some 0
theorem f_Y_isNote {w y : Prop} {g : g_S} {n : NS} {m : YS} (hy : y) {xv1 : Int32} {v1 : Int} (ev1 : xv1 = Int32.ofInt v1) (rv1 : inR v1) (hR : RC w y g n m) : Rf (fun a b => RZ a b) (M_Y_isNote 1838 xv1 g) (N_Y_isNote v1 m) := by
  subst ev1
  unfold M_Y_isNote N_Y_isNote
  refine v_c (y_gt hR hy) ?_
  refine rf_bind (f_Y_isAt hy rfl rv1 (e_n 60) (show inR 60 by decide) (e_n 33) (show inR 33 by decide) (e_n 45) (show inR 45 by decide) hR) (fun a4 z2 h => ?_)
  obtain ⟨rfl, r3⟩ := h
  refine rf_eq rfl (e_n 0) (inZ.r r3) (show inR 0 by decide) ?_ ?_
  · exact rf_ok (by exact ⟨(e_n 0), (.inl rfl)⟩)
  · refine rf_ck (fun h7 => ?_)
    refine y_I hR hy yk76 yt76 (fun h8 => ?_)
    refine rf_lt (e_add rfl (e_n 3)) rfl h7 h8 ?_ ?_
    · refine y_Q hR hy ya75.1 (by decide) ?_
      refine rf_ck (fun h11 => ?_)
      refine y_aB hR hy ya75 yl75 (e_add rfl (e_n 3)) h11 (fun h12 h13 => ?_)
      refine rf_eq rfl (e_n 45) (inB.r h13) (show inR 45 by decide) ?_ ?_
      · exact rf_ok (by exact ⟨(e_n 1), (.inr rfl)⟩)
      · exact rf_ok (by exact ⟨(e_n 0), (.inl rfl)⟩)
    · exact rf_ok (by exact ⟨(e_n 0), (.inl rfl)⟩)
noncomputable def N_Y_isLetter (v0 : Int) (m : YS) : Option (Int) :=
  (N_Y_isSmall v0 m).bind fun z2 =>
  if z2 = 0 then
    if v0 < 65 then
      some 0
    else
      if 90 < v0 then
        some 0
      else
        some 1
  else
    some 1
theorem f_Y_isLetter {w y : Prop} {g : g_S} {n : NS} {m : YS} (hy : y) {xv0 : Int32} {v0 : Int} (ev0 : xv0 = Int32.ofInt v0) (rv0 : inR v0) (hR : RC w y g n m) : Rf (fun a b => RZ a b) (M_Y_isLetter xv0 g) (N_Y_isLetter v0 m) := by
  subst ev0
  unfold M_Y_isLetter N_Y_isLetter
  refine rf_bind (f_Y_isSmall hy rfl rv0 hR) (fun a4 z2 h => ?_)
  obtain ⟨rfl, r3⟩ := h
  refine rf_eq rfl (e_n 0) (inZ.r r3) (show inR 0 by decide) ?_ ?_
  · refine rf_lt rfl (e_n 65) rv0 (show inR 65 by decide) ?_ ?_
    · exact rf_ok (by exact ⟨(e_n 0), (.inl rfl)⟩)
    · refine rf_lt (e_n 90) rfl (show inR 90 by decide) rv0 ?_ ?_
      · exact rf_ok (by exact ⟨(e_n 0), (.inl rfl)⟩)
      · exact rf_ok (by exact ⟨(e_n 1), (.inr rfl)⟩)
  · exact rf_ok (by exact ⟨(e_n 1), (.inr rfl)⟩)
noncomputable def nk_Y_isTag_53 (w0 : Int) (m : YS) : Option (Int) :=
  if w0 < (m 76 0) then
    ix w0 2000 <|
    (N_Y_isLetter (m 75 w0) m).bind fun z7 =>
    if z7 = 0 then
      some 0
    else
      some 1
  else
    some 0
theorem fk_Y_isTag_53 {w y : Prop} {g : g_S} {n : NS} {m : YS} (hy : y) {xw0 : Int32} {w0 : Int} (ew0 : xw0 = Int32.ofInt w0) (rw0 : inR w0) (hR : RC w y g n m) : Rf (fun a b => RZ a b) (k_Y_isTag_53 1838 xw0 g) (nk_Y_isTag_53 w0 m) := by
  subst ew0
  unfold k_Y_isTag_53 nk_Y_isTag_53
  refine y_I hR hy yk76 yt76 (fun h1 => ?_)
  refine rf_lt rfl rfl rw0 h1 ?_ ?_
  · refine y_Q hR hy ya75.1 (by decide) ?_
    refine y_aB hR hy ya75 yl75 rfl rw0 (fun h4 h5 => ?_)
    refine rf_bind (f_Y_isLetter hy rfl (inB.r h5) hR) (fun a9 z7 h => ?_)
    obtain ⟨rfl, r8⟩ := h
    refine rf_eq rfl (e_n 0) (inZ.r r8) (show inR 0 by decide) ?_ ?_
    · exact rf_ok (by exact ⟨(e_n 0), (.inl rfl)⟩)
    · exact rf_ok (by exact ⟨(e_n 1), (.inr rfl)⟩)
  · exact rf_ok (by exact ⟨(e_n 0), (.inl rfl)⟩)
noncomputable def nk_Y_isTag_50 (v1 : Int) (m : YS) : Option (Int) :=
  ck (v1 + 1) <|
  nk_Y_isTag_53 (v1 + 1) m
theorem fk_Y_isTag_50 {w y : Prop} {g : g_S} {n : NS} {m : YS} (hy : y) {xv1 : Int32} {v1 : Int} (ev1 : xv1 = Int32.ofInt v1) (rv1 : inR v1) (hR : RC w y g n m) : Rf (fun a b => RZ a b) (k_Y_isTag_50 1838 xv1 g) (nk_Y_isTag_50 v1 m) := by
  subst ev1
  unfold k_Y_isTag_50 nk_Y_isTag_50
  refine rf_ck (fun h1 => ?_)
  exact fk_Y_isTag_53 hy (e_add rfl (e_n 1)) h1 hR
noncomputable def N_Y_isTag (v1 : Int) (m : YS) : Option (Int) :=
  if v1 < (m 76 0) then
    ix v1 2000 <|
    if (m 75 v1) = 60 then
      ck (v1 + 1) <|
      if (v1 + 1) < (m 76 0) then
        ck (v1 + 1) <|
        ix (v1 + 1) 2000 <|
        if (m 75 (v1 + 1)) = 47 then
          ck (v1 + 2) <|
          nk_Y_isTag_53 (v1 + 2) m
        else
          nk_Y_isTag_50 v1 m
      else
        nk_Y_isTag_50 v1 m
    else
      some 0
  else
    some 0
theorem f_Y_isTag {w y : Prop} {g : g_S} {n : NS} {m : YS} (hy : y) {xv1 : Int32} {v1 : Int} (ev1 : xv1 = Int32.ofInt v1) (rv1 : inR v1) (hR : RC w y g n m) : Rf (fun a b => RZ a b) (M_Y_isTag 1838 xv1 g) (N_Y_isTag v1 m) := by
  subst ev1
  unfold M_Y_isTag N_Y_isTag
  refine y_I hR hy yk76 yt76 (fun h1 => ?_)
  refine rf_lt rfl rfl rv1 h1 ?_ ?_
  · refine y_Q hR hy ya75.1 (by decide) ?_
    refine y_aB hR hy ya75 yl75 rfl rv1 (fun h4 h5 => ?_)
    refine rf_eq rfl (e_n 60) (inB.r h5) (show inR 60 by decide) ?_ ?_
    · refine rf_ck (fun h7 => ?_)
      refine y_I hR hy yk76 yt76 (fun h8 => ?_)
      refine rf_lt (e_add rfl (e_n 1)) rfl h7 h8 ?_ ?_
      · refine y_Q hR hy ya75.1 (by decide) ?_
        refine rf_ck (fun h11 => ?_)
        refine y_aB hR hy ya75 yl75 (e_add rfl (e_n 1)) h11 (fun h12 h13 => ?_)
        refine rf_eq rfl (e_n 47) (inB.r h13) (show inR 47 by decide) ?_ ?_
        · refine rf_ck (fun h15 => ?_)
          exact fk_Y_isTag_53 hy (e_add rfl (e_n 2)) h15 hR
        · exact fk_Y_isTag_50 hy rfl rv1 hR
      · exact fk_Y_isTag_50 hy rfl rv1 hR
    · exact rf_ok (by exact ⟨(e_n 0), (.inl rfl)⟩)
  · exact rf_ok (by exact ⟨(e_n 0), (.inl rfl)⟩)
noncomputable def nk_Y_tellFault_29 (m : YS) : Option (YS) :=
  ck ((m 70 0) + 1) <|
  st (yw m 70 0 ((m 70 0) + 1)) fun m4 =>
  some m4
theorem fk_Y_tellFault_29 {w y : Prop} {g : g_S} {n : NS} {m : YS} (hy : y) (hR : RC w y g n m) : Rf (fun a b => RC w y a n b) (k_Y_tellFault_29 1838 g) (nk_Y_tellFault_29 m) := by
  unfold k_Y_tellFault_29 nk_Y_tellFault_29
  refine y_I hR hy yk70 yt70 (fun h1 => ?_)
  refine rf_ck (fun h2 => ?_)
  refine y_pI hR hy yk70 ⟨yt70, yz70⟩ (e_add rfl (e_n 1)) h2 (fun g6 m4 hR5 => ?_)
  exact rf_ok (by exact hR5)
noncomputable def N_Y_tellFault (v1 : Int) (v2 : Int) (m : YS) : Option (YS) :=
  if (m 70 0) < 40 then
    ix (m 70 0) 40 <|
    st (yw m 71 (m 70 0) v1) fun m6 =>
    ix (m6 70 0) 40 <|
    st (yw m6 72 (m6 70 0) v2) fun m12 =>
    nk_Y_tellFault_29 m12
  else
    nk_Y_tellFault_29 m
theorem f_Y_tellFault {w y : Prop} {g : g_S} {n : NS} {m : YS} (hy : y) {xv1 : Int32} {v1 : Int} (ev1 : xv1 = Int32.ofInt v1) (rv1 : inR v1) {xv2 : Int32} {v2 : Int} (ev2 : xv2 = Int32.ofInt v2) (rv2 : inR v2) (hR : RC w y g n m) : Rf (fun a b => RC w y a n b) (M_Y_tellFault 1838 xv1 xv2 g) (N_Y_tellFault v1 v2 m) := by
  subst ev1
  subst ev2
  unfold M_Y_tellFault N_Y_tellFault
  refine y_I hR hy yk70 yt70 (fun h1 => ?_)
  refine rf_lt rfl (e_n 40) h1 (show inR 40 by decide) ?_ ?_
  · refine y_Q hR hy ya71.1 (by decide) ?_
    refine y_I hR hy yk70 yt70 (fun h4 => ?_)
    refine y_sI hR hy ya71 yl71 rfl h4 rfl rv1 (fun g8 m6 hR7 => ?_)
    refine y_Q hR7 hy ya72.1 (by decide) ?_
    refine y_I hR7 hy yk70 yt70 (fun h10 => ?_)
    refine y_sI hR7 hy ya72 yl72 rfl h10 rfl rv2 (fun g14 m12 hR13 => ?_)
    exact fk_Y_tellFault_29 hy hR13
  · exact fk_Y_tellFault_29 hy hR
noncomputable def nk_Y_entity_150 (v1 : Nat) (v2 : Int) (v3 : Int) (v4 : Int) (m : YS) : Option (Int × YS) :=
  ck (v2 + 5) <|
  if (v2 + 5) < v3 then
    ck (v2 + 1) <|
    ix (v2 + 1) (yLn v1 : Int) <|
    if (m v1 (v2 + 1)) = 113 then
      ck (v2 + 2) <|
      ix (v2 + 2) (yLn v1 : Int) <|
      if (m v1 (v2 + 2)) = 117 then
        ck (v2 + 3) <|
        ix (v2 + 3) (yLn v1 : Int) <|
        if (m v1 (v2 + 3)) = 111 then
          ck (v2 + 4) <|
          ix (v2 + 4) (yLn v1 : Int) <|
          if (m v1 (v2 + 4)) = 116 then
            ck (v2 + 5) <|
            ix (v2 + 5) (yLn v1 : Int) <|
            if (m v1 (v2 + 5)) = 59 then
              st (yw m 77 0 6) fun m24 =>
              some (34, m24)
            else
              some (v4, m)
          else
            some (v4, m)
        else
          some (v4, m)
      else
        some (v4, m)
    else
      some (v4, m)
  else
    some (v4, m)
theorem fk_Y_entity_150 {w y : Prop} {g : g_S} {n : NS} {m : YS} (hy : y) {xv1 : Nat} {v1 : Nat} (ev1 : xv1 = yAd v1) (rv1 : v1 < 186 ∧ yT v1 = 1) {xv2 : Int32} {v2 : Int} (ev2 : xv2 = Int32.ofInt v2) (rv2 : inR v2) {xv3 : Int32} {v3 : Int} (ev3 : xv3 = Int32.ofInt v3) (rv3 : inR v3) {xv4 : Int32} {v4 : Int} (ev4 : xv4 = Int32.ofInt v4) (rv4 : inR v4) (hR : RC w y g n m) : Rf (fun a b => RI a.1 b.1 ∧ RC w y a.2 n b.2) (k_Y_entity_150 1838 xv1 xv2 xv3 xv4 g) (nk_Y_entity_150 v1 v2 v3 v4 m) := by
  subst ev1
  subst ev2
  subst ev3
  subst ev4
  unfold k_Y_entity_150 nk_Y_entity_150
  refine rf_ck (fun h1 => ?_)
  refine rf_lt (e_add rfl (e_n 5)) rfl h1 rv3 ?_ ?_
  · refine rf_ck (fun h3 => ?_)
    refine y_aB hR hy rv1 rfl (e_add rfl (e_n 1)) h3 (fun h4 h5 => ?_)
    refine rf_eq rfl (e_n 113) (inB.r h5) (show inR 113 by decide) ?_ ?_
    · refine rf_ck (fun h7 => ?_)
      refine y_aB hR hy rv1 rfl (e_add rfl (e_n 2)) h7 (fun h8 h9 => ?_)
      refine rf_eq rfl (e_n 117) (inB.r h9) (show inR 117 by decide) ?_ ?_
      · refine rf_ck (fun h11 => ?_)
        refine y_aB hR hy rv1 rfl (e_add rfl (e_n 3)) h11 (fun h12 h13 => ?_)
        refine rf_eq rfl (e_n 111) (inB.r h13) (show inR 111 by decide) ?_ ?_
        · refine rf_ck (fun h15 => ?_)
          refine y_aB hR hy rv1 rfl (e_add rfl (e_n 4)) h15 (fun h16 h17 => ?_)
          refine rf_eq rfl (e_n 116) (inB.r h17) (show inR 116 by decide) ?_ ?_
          · refine rf_ck (fun h19 => ?_)
            refine y_aB hR hy rv1 rfl (e_add rfl (e_n 5)) h19 (fun h20 h21 => ?_)
            refine rf_eq rfl (e_n 59) (inB.r h21) (show inR 59 by decide) ?_ ?_
            · refine y_pI hR hy yk77 ⟨yt77, yz77⟩ (e_n 6) (show inR 6 by decide) (fun g26 m24 hR25 => ?_)
              exact rf_ok (by exact ⟨⟨(e_n 34), (show inR 34 by decide)⟩, hR25⟩)
            · exact rf_ok (by exact ⟨⟨rfl, rv4⟩, hR⟩)
          · exact rf_ok (by exact ⟨⟨rfl, rv4⟩, hR⟩)
        · exact rf_ok (by exact ⟨⟨rfl, rv4⟩, hR⟩)
      · exact rf_ok (by exact ⟨⟨rfl, rv4⟩, hR⟩)
    · exact rf_ok (by exact ⟨⟨rfl, rv4⟩, hR⟩)
  · exact rf_ok (by exact ⟨⟨rfl, rv4⟩, hR⟩)
noncomputable def nk_Y_entity_95 (v1 : Nat) (v2 : Int) (v3 : Int) (v4 : Int) (m : YS) : Option (Int × YS) :=
  ck (v2 + 4) <|
  if (v2 + 4) < v3 then
    ck (v2 + 1) <|
    ix (v2 + 1) (yLn v1 : Int) <|
    if (m v1 (v2 + 1)) = 97 then
      ck (v2 + 2) <|
      ix (v2 + 2) (yLn v1 : Int) <|
      if (m v1 (v2 + 2)) = 109 then
        ck (v2 + 3) <|
        ix (v2 + 3) (yLn v1 : Int) <|
        if (m v1 (v2 + 3)) = 112 then
          ck (v2 + 4) <|
          ix (v2 + 4) (yLn v1 : Int) <|
          if (m v1 (v2 + 4)) = 59 then
            st (yw m 77 0 5) fun m20 =>
            some (v4, m20)
          else
            nk_Y_entity_150 v1 v2 v3 v4 m
        else
          nk_Y_entity_150 v1 v2 v3 v4 m
      else
        nk_Y_entity_150 v1 v2 v3 v4 m
    else
      nk_Y_entity_150 v1 v2 v3 v4 m
  else
    nk_Y_entity_150 v1 v2 v3 v4 m
theorem fk_Y_entity_95 {w y : Prop} {g : g_S} {n : NS} {m : YS} (hy : y) {xv1 : Nat} {v1 : Nat} (ev1 : xv1 = yAd v1) (rv1 : v1 < 186 ∧ yT v1 = 1) {xv2 : Int32} {v2 : Int} (ev2 : xv2 = Int32.ofInt v2) (rv2 : inR v2) {xv3 : Int32} {v3 : Int} (ev3 : xv3 = Int32.ofInt v3) (rv3 : inR v3) {xv4 : Int32} {v4 : Int} (ev4 : xv4 = Int32.ofInt v4) (rv4 : inR v4) (hR : RC w y g n m) : Rf (fun a b => RI a.1 b.1 ∧ RC w y a.2 n b.2) (k_Y_entity_95 1838 xv1 xv2 xv3 xv4 g) (nk_Y_entity_95 v1 v2 v3 v4 m) := by
  subst ev1
  subst ev2
  subst ev3
  subst ev4
  unfold k_Y_entity_95 nk_Y_entity_95
  refine rf_ck (fun h1 => ?_)
  refine rf_lt (e_add rfl (e_n 4)) rfl h1 rv3 ?_ ?_
  · refine rf_ck (fun h3 => ?_)
    refine y_aB hR hy rv1 rfl (e_add rfl (e_n 1)) h3 (fun h4 h5 => ?_)
    refine rf_eq rfl (e_n 97) (inB.r h5) (show inR 97 by decide) ?_ ?_
    · refine rf_ck (fun h7 => ?_)
      refine y_aB hR hy rv1 rfl (e_add rfl (e_n 2)) h7 (fun h8 h9 => ?_)
      refine rf_eq rfl (e_n 109) (inB.r h9) (show inR 109 by decide) ?_ ?_
      · refine rf_ck (fun h11 => ?_)
        refine y_aB hR hy rv1 rfl (e_add rfl (e_n 3)) h11 (fun h12 h13 => ?_)
        refine rf_eq rfl (e_n 112) (inB.r h13) (show inR 112 by decide) ?_ ?_
        · refine rf_ck (fun h15 => ?_)
          refine y_aB hR hy rv1 rfl (e_add rfl (e_n 4)) h15 (fun h16 h17 => ?_)
          refine rf_eq rfl (e_n 59) (inB.r h17) (show inR 59 by decide) ?_ ?_
          · refine y_pI hR hy yk77 ⟨yt77, yz77⟩ (e_n 5) (show inR 5 by decide) (fun g22 m20 hR21 => ?_)
            exact rf_ok (by exact ⟨⟨rfl, rv4⟩, hR21⟩)
          · exact fk_Y_entity_150 hy rfl rv1 rfl rv2 rfl rv3 rfl rv4 hR
        · exact fk_Y_entity_150 hy rfl rv1 rfl rv2 rfl rv3 rfl rv4 hR
      · exact fk_Y_entity_150 hy rfl rv1 rfl rv2 rfl rv3 rfl rv4 hR
    · exact fk_Y_entity_150 hy rfl rv1 rfl rv2 rfl rv3 rfl rv4 hR
  · exact fk_Y_entity_150 hy rfl rv1 rfl rv2 rfl rv3 rfl rv4 hR
noncomputable def nk_Y_entity_68 (v1 : Nat) (v2 : Int) (m : YS) : Option (Int × YS) :=
  st (yw m 77 0 4) fun m2 =>
  ck (v2 + 1) <|
  ix (v2 + 1) (yLn v1 : Int) <|
  if (m2 v1 (v2 + 1)) = 108 then
    some (60, m2)
  else
    some (62, m2)
theorem fk_Y_entity_68 {w y : Prop} {g : g_S} {n : NS} {m : YS} (hy : y) {xv1 : Nat} {v1 : Nat} (ev1 : xv1 = yAd v1) (rv1 : v1 < 186 ∧ yT v1 = 1) {xv2 : Int32} {v2 : Int} (ev2 : xv2 = Int32.ofInt v2) (rv2 : inR v2) (hR : RC w y g n m) : Rf (fun a b => RI a.1 b.1 ∧ RC w y a.2 n b.2) (k_Y_entity_68 1838 xv1 xv2 g) (nk_Y_entity_68 v1 v2 m) := by
  subst ev1
  subst ev2
  unfold k_Y_entity_68 nk_Y_entity_68
  refine y_pI hR hy yk77 ⟨yt77, yz77⟩ (e_n 4) (show inR 4 by decide) (fun g4 m2 hR3 => ?_)
  refine rf_ck (fun h5 => ?_)
  refine y_aB hR3 hy rv1 rfl (e_add rfl (e_n 1)) h5 (fun h6 h7 => ?_)
  refine rf_eq rfl (e_n 108) (inB.r h7) (show inR 108 by decide) ?_ ?_
  · exact rf_ok (by exact ⟨⟨(e_n 60), (show inR 60 by decide)⟩, hR3⟩)
  · exact rf_ok (by exact ⟨⟨(e_n 62), (show inR 62 by decide)⟩, hR3⟩)
noncomputable def N_Y_entity (v1 : Nat) (v2 : Int) (v3 : Int) (m : YS) : Option (Int × YS) :=
  st (yw m 77 0 1) fun m2 =>
  ix v2 (yLn v1 : Int) <|
  if (m2 v1 v2) = 38 then
    ck (v2 + 3) <|
    if (v2 + 3) < v3 then
      ck (v2 + 2) <|
      ix (v2 + 2) (yLn v1 : Int) <|
      if (m2 v1 (v2 + 2)) = 116 then
        ck (v2 + 3) <|
        ix (v2 + 3) (yLn v1 : Int) <|
        if (m2 v1 (v2 + 3)) = 59 then
          ck (v2 + 1) <|
          ix (v2 + 1) (yLn v1 : Int) <|
          if (m2 v1 (v2 + 1)) = 108 then
            nk_Y_entity_68 v1 v2 m2
          else
            ck (v2 + 1) <|
            ix (v2 + 1) (yLn v1 : Int) <|
            if (m2 v1 (v2 + 1)) = 103 then
              nk_Y_entity_68 v1 v2 m2
            else
              nk_Y_entity_95 v1 v2 v3 38 m2
        else
          nk_Y_entity_95 v1 v2 v3 38 m2
      else
        nk_Y_entity_95 v1 v2 v3 38 m2
    else
      nk_Y_entity_95 v1 v2 v3 38 m2
  else
    ix v2 (yLn v1 : Int) <|
    some ((m2 v1 v2), m2)
theorem f_Y_entity {w y : Prop} {g : g_S} {n : NS} {m : YS} (hy : y) {xv1 : Nat} {v1 : Nat} (ev1 : xv1 = yAd v1) (rv1 : v1 < 186 ∧ yT v1 = 1) {xv2 : Int32} {v2 : Int} (ev2 : xv2 = Int32.ofInt v2) (rv2 : inR v2) {xv3 : Int32} {v3 : Int} (ev3 : xv3 = Int32.ofInt v3) (rv3 : inR v3) (hR : RC w y g n m) : Rf (fun a b => RI a.1 b.1 ∧ RC w y a.2 n b.2) (M_Y_entity 1838 xv1 xv2 xv3 g) (N_Y_entity v1 v2 v3 m) := by
  subst ev1
  subst ev2
  subst ev3
  unfold M_Y_entity N_Y_entity
  refine y_pI hR hy yk77 ⟨yt77, yz77⟩ (e_n 1) (show inR 1 by decide) (fun g4 m2 hR3 => ?_)
  refine y_aB hR3 hy rv1 rfl rfl rv2 (fun h5 h6 => ?_)
  refine rf_eq rfl (e_n 38) (inB.r h6) (show inR 38 by decide) ?_ ?_
  · refine rf_ck (fun h8 => ?_)
    refine rf_lt (e_add rfl (e_n 3)) rfl h8 rv3 ?_ ?_
    · refine rf_ck (fun h10 => ?_)
      refine y_aB hR3 hy rv1 rfl (e_add rfl (e_n 2)) h10 (fun h11 h12 => ?_)
      refine rf_eq rfl (e_n 116) (inB.r h12) (show inR 116 by decide) ?_ ?_
      · refine rf_ck (fun h14 => ?_)
        refine y_aB hR3 hy rv1 rfl (e_add rfl (e_n 3)) h14 (fun h15 h16 => ?_)
        refine rf_eq rfl (e_n 59) (inB.r h16) (show inR 59 by decide) ?_ ?_
        · refine rf_ck (fun h18 => ?_)
          refine y_aB hR3 hy rv1 rfl (e_add rfl (e_n 1)) h18 (fun h19 h20 => ?_)
          refine rf_eq rfl (e_n 108) (inB.r h20) (show inR 108 by decide) ?_ ?_
          · exact fk_Y_entity_68 hy rfl rv1 rfl rv2 hR3
          · refine rf_ck (fun h22 => ?_)
            refine y_aB hR3 hy rv1 rfl (e_add rfl (e_n 1)) h22 (fun h23 h24 => ?_)
            refine rf_eq rfl (e_n 103) (inB.r h24) (show inR 103 by decide) ?_ ?_
            · exact fk_Y_entity_68 hy rfl rv1 rfl rv2 hR3
            · exact fk_Y_entity_95 hy rfl rv1 rfl rv2 rfl rv3 (e_n 38) (show inR 38 by decide) hR3
        · exact fk_Y_entity_95 hy rfl rv1 rfl rv2 rfl rv3 (e_n 38) (show inR 38 by decide) hR3
      · exact fk_Y_entity_95 hy rfl rv1 rfl rv2 rfl rv3 (e_n 38) (show inR 38 by decide) hR3
    · exact fk_Y_entity_95 hy rfl rv1 rfl rv2 rfl rv3 (e_n 38) (show inR 38 by decide) hR3
  · refine y_aB hR3 hy rv1 rfl rfl rv2 (fun h26 h27 => ?_)
    exact rf_ok (by exact ⟨⟨rfl, (inB.r h27)⟩, hR3⟩)
noncomputable def nk_Y_run_35 (v1 : Int) (v2 : Int) (v3 : Int) (w0 : Int) (m : YS) : Option ((Int × Int × Int) ⊕ (Int × Int)) :=
  ck (v3 + 1) <|
  if (v3 + 1) < (m 76 0) then
    if v2 = 0 then
      (N_Y_isNote (v3 + 1) m).bind fun z6 =>
      if z6 = 0 then
        (N_Y_isTag (v3 + 1) m).bind fun z11 =>
        if z11 = 0 then
          some (.inl (v3 + 1, w0, 1))
        else
          some (.inl (v3 + 1, w0, 0))
      else
        some (.inl (v3 + 1, w0, 0))
    else
      (N_Y_endsStyle (v3 + 1) m).bind fun z16 =>
      if z16 = 0 then
        some (.inl (v3 + 1, w0, 1))
      else
        some (.inl (v3 + 1, w0, 0))
  else
    some (.inl (v3 + 1, w0, 0))
theorem fk_Y_run_35 {w y : Prop} {g : g_S} {n : NS} {m : YS} (hy : y) {xv1 : Int32} {v1 : Int} (ev1 : xv1 = Int32.ofInt v1) (rv1 : inR v1) {xv2 : Int32} {v2 : Int} (ev2 : xv2 = Int32.ofInt v2) (rv2 : inR v2) {xv3 : Int32} {v3 : Int} (ev3 : xv3 = Int32.ofInt v3) (rv3 : inR v3) {xw0 : Int32} {w0 : Int} (ew0 : xw0 = Int32.ofInt w0) (rw0 : inR w0) (hR : RC w y g n m) : Rf (RS (fun a b => RI a.1 b.1 ∧ RI a.2.1 b.2.1 ∧ RI a.2.2 b.2.2) (fun a b => RI a.1 b.1 ∧ RI a.2 b.2)) (k_Y_run_35 1838 xv1 xv2 xv3 xw0 g) (nk_Y_run_35 v1 v2 v3 w0 m) := by
  subst ev1
  subst ev2
  subst ev3
  subst ew0
  unfold k_Y_run_35 nk_Y_run_35
  refine rf_ck (fun h1 => ?_)
  refine y_I hR hy yk76 yt76 (fun h2 => ?_)
  refine rf_lt (e_add rfl (e_n 1)) rfl h1 h2 ?_ ?_
  · refine rf_eq rfl (e_n 0) rv2 (show inR 0 by decide) ?_ ?_
    · refine v_c (y_gt hR hy) ?_
      refine rf_bind (f_Y_isNote hy (e_add rfl (e_n 1)) h1 hR) (fun a8 z6 h => ?_)
      obtain ⟨rfl, r7⟩ := h
      refine rf_eq rfl (e_n 0) (inZ.r r7) (show inR 0 by decide) ?_ ?_
      · refine v_c (y_gt hR hy) ?_
        refine rf_bind (f_Y_isTag hy (e_add rfl (e_n 1)) h1 hR) (fun a13 z11 h => ?_)
        obtain ⟨rfl, r12⟩ := h
        refine rf_eq rfl (e_n 0) (inZ.r r12) (show inR 0 by decide) ?_ ?_
        · exact rf_ok (by exact ⟨⟨(e_add rfl (e_n 1)), h1⟩, ⟨rfl, rw0⟩, ⟨(e_n 1), (show inR 1 by decide)⟩⟩)
        · exact rf_ok (by exact ⟨⟨(e_add rfl (e_n 1)), h1⟩, ⟨rfl, rw0⟩, ⟨(e_n 0), (show inR 0 by decide)⟩⟩)
      · exact rf_ok (by exact ⟨⟨(e_add rfl (e_n 1)), h1⟩, ⟨rfl, rw0⟩, ⟨(e_n 0), (show inR 0 by decide)⟩⟩)
    · refine v_c (y_gt hR hy) ?_
      refine rf_bind (f_Y_endsStyle hy (e_add rfl (e_n 1)) h1 hR) (fun a18 z16 h => ?_)
      obtain ⟨rfl, r17⟩ := h
      refine rf_eq rfl (e_n 0) (inZ.r r17) (show inR 0 by decide) ?_ ?_
      · exact rf_ok (by exact ⟨⟨(e_add rfl (e_n 1)), h1⟩, ⟨rfl, rw0⟩, ⟨(e_n 1), (show inR 1 by decide)⟩⟩)
      · exact rf_ok (by exact ⟨⟨(e_add rfl (e_n 1)), h1⟩, ⟨rfl, rw0⟩, ⟨(e_n 0), (show inR 0 by decide)⟩⟩)
  · exact rf_ok (by exact ⟨⟨(e_add rfl (e_n 1)), h1⟩, ⟨rfl, rw0⟩, ⟨(e_n 0), (show inR 0 by decide)⟩⟩)
noncomputable def nk_Y_run_34 (v1 : Int) (v2 : Int) (v3 : Int) (m : YS) : Option ((Int × Int × Int) ⊕ (Int × Int)) :=
  nk_Y_run_35 v1 v2 v3 0 m
theorem fk_Y_run_34 {w y : Prop} {g : g_S} {n : NS} {m : YS} (hy : y) {xv1 : Int32} {v1 : Int} (ev1 : xv1 = Int32.ofInt v1) (rv1 : inR v1) {xv2 : Int32} {v2 : Int} (ev2 : xv2 = Int32.ofInt v2) (rv2 : inR v2) {xv3 : Int32} {v3 : Int} (ev3 : xv3 = Int32.ofInt v3) (rv3 : inR v3) (hR : RC w y g n m) : Rf (RS (fun a b => RI a.1 b.1 ∧ RI a.2.1 b.2.1 ∧ RI a.2.2 b.2.2) (fun a b => RI a.1 b.1 ∧ RI a.2 b.2)) (k_Y_run_34 1838 xv1 xv2 xv3 g) (nk_Y_run_34 v1 v2 v3 m) := by
  subst ev1
  subst ev2
  subst ev3
  unfold k_Y_run_34 nk_Y_run_34
  exact fk_Y_run_35 hy rfl rv1 rfl rv2 rfl rv3 (e_n 0) (show inR 0 by decide) hR
noncomputable def nb_Y_run_8 (v1 : Int) (v2 : Int) (v3 : Int) (v4 : Int) (v5 : Int) (m : YS) : Option ((Int × Int × Int) ⊕ (Int × Int)) :=
  if v5 = 0 then
    some (.inr (v3, v4))
  else
    if v4 = 0 then
      nk_Y_run_34 v1 v2 v3 m
    else
      ix v3 2000 <|
      (N_Y_isBlank (m 75 v3) m).bind fun z7 =>
      if z7 = 0 then
        nk_Y_run_34 v1 v2 v3 m
      else
        nk_Y_run_35 v1 v2 v3 1 m
theorem fb_Y_run_8 {w y : Prop} {g : g_S} {n : NS} {m : YS} (hy : y) {xv1 : Int32} {v1 : Int} (ev1 : xv1 = Int32.ofInt v1) (rv1 : inR v1) {xv2 : Int32} {v2 : Int} (ev2 : xv2 = Int32.ofInt v2) (rv2 : inR v2) {xv3 : Int32} {v3 : Int} (ev3 : xv3 = Int32.ofInt v3) (rv3 : inR v3) {xv4 : Int32} {v4 : Int} (ev4 : xv4 = Int32.ofInt v4) (rv4 : inR v4) {xv5 : Int32} {v5 : Int} (ev5 : xv5 = Int32.ofInt v5) (rv5 : inR v5) (hR : RC w y g n m) : Rf (RS (fun a b => RI a.1 b.1 ∧ RI a.2.1 b.2.1 ∧ RI a.2.2 b.2.2) (fun a b => RI a.1 b.1 ∧ RI a.2 b.2)) (b_Y_run_8 1838 xv1 xv2 xv3 xv4 xv5 g) (nb_Y_run_8 v1 v2 v3 v4 v5 m) := by
  subst ev1
  subst ev2
  subst ev3
  subst ev4
  subst ev5
  unfold b_Y_run_8 nb_Y_run_8
  refine rf_eq rfl (e_n 0) rv5 (show inR 0 by decide) ?_ ?_
  · exact rf_ok (by exact ⟨⟨rfl, rv3⟩, ⟨rfl, rv4⟩⟩)
  · refine rf_eq rfl (e_n 0) rv4 (show inR 0 by decide) ?_ ?_
    · exact fk_Y_run_34 hy rfl rv1 rfl rv2 rfl rv3 hR
    · refine y_Q hR hy ya75.1 (by decide) ?_
      refine y_aB hR hy ya75 yl75 rfl rv3 (fun h4 h5 => ?_)
      refine rf_bind (f_Y_isBlank hy rfl (inB.r h5) hR) (fun a9 z7 h => ?_)
      obtain ⟨rfl, r8⟩ := h
      refine rf_eq rfl (e_n 0) (inZ.r r8) (show inR 0 by decide) ?_ ?_
      · exact fk_Y_run_34 hy rfl rv1 rfl rv2 rfl rv3 hR
      · exact fk_Y_run_35 hy rfl rv1 rfl rv2 rfl rv3 (e_n 1) (show inR 1 by decide) hR
noncomputable def NL_Y_run_8 (v1 : Int) (v2 : Int) (v3 : Int) (v4 : Int) (v5 : Int) (m : YS) : Option (Int × Int) :=
  it (fun s : Int × Int × Int => nb_Y_run_8 v1 v2 s.1 s.2.1 s.2.2 m) (v3, v4, v5)
theorem fL_Y_run_8 {w y : Prop} {g : g_S} {n : NS} {m : YS} (hy : y) {xv1 : Int32} {v1 : Int} (ev1 : xv1 = Int32.ofInt v1) (rv1 : inR v1) {xv2 : Int32} {v2 : Int} (ev2 : xv2 = Int32.ofInt v2) (rv2 : inR v2) {xv3 : Int32} {v3 : Int} (ev3 : xv3 = Int32.ofInt v3) (rv3 : inR v3) {xv4 : Int32} {v4 : Int} (ev4 : xv4 = Int32.ofInt v4) (rv4 : inR v4) {xv5 : Int32} {v5 : Int} (ev5 : xv5 = Int32.ofInt v5) (rv5 : inR v5) (hR : RC w y g n m) : Rf (fun a b => RI a.1 b.1 ∧ RI a.2 b.2) (L_Y_run_8 1838 xv1 xv2 xv3 xv4 xv5 g) (NL_Y_run_8 v1 v2 v3 v4 v5 m) := by
  subst ev1
  subst ev2
  subst ev3
  subst ev4
  subst ev5
  unfold L_Y_run_8 NL_Y_run_8
  refine rf_it (I := (fun a b => RI a.1 b.1 ∧ RI a.2.1 b.2.1 ∧ RI a.2.2 b.2.2)) (fun s t h => ?_) ⟨⟨rfl, rv3⟩, ⟨rfl, rv4⟩, ⟨rfl, rv5⟩⟩
  exact fb_Y_run_8 hy rfl rv1 rfl rv2 h.1.1 h.1.2 h.2.1.1 h.2.1.2 h.2.2.1 h.2.2.2 hR
theorem NL_Y_run_8_eq (v1 : Int) (v2 : Int) (v3 : Int) (v4 : Int) (v5 : Int) (m : YS) : NL_Y_run_8 v1 v2 v3 v4 v5 m = itc (nb_Y_run_8 v1 v2 v3 v4 v5 m) (fun s => NL_Y_run_8 v1 v2 s.1 s.2.1 s.2.2 m) := it_eq2 (fun s : Int × Int × Int => nb_Y_run_8 v1 v2 s.1 s.2.1 s.2.2 m) (v3, v4, v5)
noncomputable def nk_Y_run_301 (v2 : Int) (v3 : Int) (v7 : Int) (v9 : Int) (m : YS) : Option ((Int × YS) ⊕ (YS)) :=
  ck (v9 + (m 77 0)) <|
  some (.inl (v9 + (m 77 0), m))
theorem fk_Y_run_301 {w y : Prop} {g : g_S} {n : NS} {m : YS} (hy : y) {xv2 : Int32} {v2 : Int} (ev2 : xv2 = Int32.ofInt v2) (rv2 : inR v2) {xv3 : Int32} {v3 : Int} (ev3 : xv3 = Int32.ofInt v3) (rv3 : inR v3) {xv7 : Int32} {v7 : Int} (ev7 : xv7 = Int32.ofInt v7) (rv7 : inR v7) {xv9 : Int32} {v9 : Int} (ev9 : xv9 = Int32.ofInt v9) (rv9 : inR v9) (hR : RC w y g n m) : Rf (RS (fun a b => RI a.1 b.1 ∧ RC w y a.2 n b.2) (fun a b => RC w y a n b)) (k_Y_run_301 1838 xv2 xv3 xv7 xv9 g) (nk_Y_run_301 v2 v3 v7 v9 m) := by
  subst ev2
  subst ev3
  subst ev7
  subst ev9
  unfold k_Y_run_301 nk_Y_run_301
  refine y_I hR hy yk77 yt77 (fun h1 => ?_)
  refine rf_ck (fun h2 => ?_)
  exact rf_ok (by exact ⟨⟨(e_add rfl rfl), h2⟩, hR⟩)
noncomputable def nk_Y_run_224 (v2 : Int) (v3 : Int) (v7 : Int) (v9 : Int) (w0 : Int) (m : YS) : Option ((Int × YS) ⊕ (YS)) :=
  ix v7 120 <|
  if (m 62 v7) < 400 then
    ck (400 * v7) <|
    ix v7 120 <|
    ck ((400 * v7) + (m 62 v7)) <|
    ix ((400 * v7) + (m 62 v7)) 48000 <|
    st (yw m 61 ((400 * v7) + (m 62 v7)) (Int.bmod w0 256)) fun m12 =>
    ix v7 120 <|
    ck ((m12 62 v7) + 1) <|
    ix v7 120 <|
    st (yw m12 62 v7 ((m12 62 v7) + 1)) fun m20 =>
    nk_Y_run_301 v2 v3 v7 v9 m20
  else
    ix v7 120 <|
    if (m 63 v7) = 0 then
      ix v7 120 <|
      st (yw m 63 v7 1) fun m29 =>
      (N_Y_tellFault 7 v9 m29).bind fun m33 =>
      nk_Y_run_301 v2 v3 v7 v9 m33
    else
      nk_Y_run_301 v2 v3 v7 v9 m
theorem fk_Y_run_224 {w y : Prop} {g : g_S} {n : NS} {m : YS} (hy : y) {xv2 : Int32} {v2 : Int} (ev2 : xv2 = Int32.ofInt v2) (rv2 : inR v2) {xv3 : Int32} {v3 : Int} (ev3 : xv3 = Int32.ofInt v3) (rv3 : inR v3) {xv7 : Int32} {v7 : Int} (ev7 : xv7 = Int32.ofInt v7) (rv7 : inR v7) {xv9 : Int32} {v9 : Int} (ev9 : xv9 = Int32.ofInt v9) (rv9 : inR v9) {xw0 : Int32} {w0 : Int} (ew0 : xw0 = Int32.ofInt w0) (rw0 : inR w0) (hR : RC w y g n m) : Rf (RS (fun a b => RI a.1 b.1 ∧ RC w y a.2 n b.2) (fun a b => RC w y a n b)) (k_Y_run_224 1838 xv2 xv3 xv7 xv9 xw0 g) (nk_Y_run_224 v2 v3 v7 v9 w0 m) := by
  subst ev2
  subst ev3
  subst ev7
  subst ev9
  subst ew0
  unfold k_Y_run_224 nk_Y_run_224
  refine y_Q hR hy ya62.1 (by decide) ?_
  refine y_aI hR hy ya62 yl62 rfl rv7 (fun h2 h3 => ?_)
  refine rf_lt rfl (e_n 400) h3 (show inR 400 by decide) ?_ ?_
  · refine y_Q hR hy ya61.1 (by decide) ?_
    refine rf_ck (fun h6 => ?_)
    refine y_Q hR hy ya62.1 (by decide) ?_
    refine y_aI hR hy ya62 yl62 rfl rv7 (fun h8 h9 => ?_)
    refine rf_ck (fun h10 => ?_)
    refine y_sB hR hy ya61 yl61 (e_add (e_mul (e_n 400) rfl) rfl) h10 (e_b rfl) b_b (fun g14 m12 hR13 => ?_)
    refine y_Q hR13 hy ya62.1 (by decide) ?_
    refine y_aI hR13 hy ya62 yl62 rfl rv7 (fun h16 h17 => ?_)
    refine rf_ck (fun h18 => ?_)
    refine y_sI hR13 hy ya62 yl62 rfl rv7 (e_add rfl (e_n 1)) h18 (fun g22 m20 hR21 => ?_)
    exact fk_Y_run_301 hy rfl rv2 rfl rv3 rfl rv7 rfl rv9 hR21
  · refine y_Q hR hy ya63.1 (by decide) ?_
    refine y_aZ hR hy ya63 yl63 rfl rv7 (fun h24 h25 => ?_)
    refine rf_eq rfl (e_n 0) (inZ.r h25) (show inR 0 by decide) ?_ ?_
    · refine y_Q hR hy ya63.1 (by decide) ?_
      refine y_sZ hR hy ya63 yl63 rfl rv7 (e_n 1) (.inr rfl) (fun g31 m29 hR30 => ?_)
      refine v_c (y_gt hR30 hy) ?_
      refine rf_bind (f_Y_tellFault hy (e_n 7) (show inR 7 by decide) rfl rv9 hR30) (fun g35 m33 hR34 => ?_)
      exact fk_Y_run_301 hy rfl rv2 rfl rv3 rfl rv7 rfl rv9 hR34
    · exact fk_Y_run_301 hy rfl rv2 rfl rv3 rfl rv7 rfl rv9 hR
noncomputable def nb_Y_run_188 (v2 : Int) (v3 : Int) (v7 : Int) (v9 : Int) (m : YS) : Option ((Int × YS) ⊕ (YS)) :=
  if v9 < v3 then
    st (yw m 77 0 1) fun m3 =>
    if v2 = 0 then
      (N_Y_entity 75 v9 v3 m3).bind <| u2 fun z9 m12 =>
      nk_Y_run_224 v2 v3 v7 v9 z9 m12
    else
      ix v9 2000 <|
      nk_Y_run_224 v2 v3 v7 v9 (m3 75 v9) m3
  else
    some (.inr m)
theorem fb_Y_run_188 {w y : Prop} {g : g_S} {n : NS} {m : YS} (hy : y) {xv2 : Int32} {v2 : Int} (ev2 : xv2 = Int32.ofInt v2) (rv2 : inR v2) {xv3 : Int32} {v3 : Int} (ev3 : xv3 = Int32.ofInt v3) (rv3 : inR v3) {xv7 : Int32} {v7 : Int} (ev7 : xv7 = Int32.ofInt v7) (rv7 : inR v7) {xv9 : Int32} {v9 : Int} (ev9 : xv9 = Int32.ofInt v9) (rv9 : inR v9) (hR : RC w y g n m) : Rf (RS (fun a b => RI a.1 b.1 ∧ RC w y a.2 n b.2) (fun a b => RC w y a n b)) (b_Y_run_188 1838 xv2 xv3 xv7 xv9 g) (nb_Y_run_188 v2 v3 v7 v9 m) := by
  subst ev2
  subst ev3
  subst ev7
  subst ev9
  unfold b_Y_run_188 nb_Y_run_188
  refine rf_lt rfl rfl rv9 rv3 ?_ ?_
  · refine y_pI hR hy yk77 ⟨yt77, yz77⟩ (e_n 1) (show inR 1 by decide) (fun g5 m3 hR4 => ?_)
    refine rf_eq rfl (e_n 0) rv2 (show inR 0 by decide) ?_ ?_
    · refine y_Q hR4 hy ya75.1 (by decide) ?_
      refine v_c2 (y_gt hR4 hy) ?_
      refine rf_c2 (f_Y_entity hy rfl ya75 rfl rv9 rfl rv3 hR4) (fun a11 g14 b h => ?_)
      obtain ⟨z9, m12⟩ := b
      refine rf_v2 ?_
      obtain ⟨rfl, r10⟩ := (show RI a11 z9 from h.1)
      have hR13 : RC w y g14 n m12 := h.2
      exact fk_Y_run_224 hy rfl rv2 rfl rv3 rfl rv7 rfl rv9 rfl r10 hR13
    · refine y_Q hR4 hy ya75.1 (by decide) ?_
      refine y_aB hR4 hy ya75 yl75 rfl rv9 (fun h16 h17 => ?_)
      exact fk_Y_run_224 hy rfl rv2 rfl rv3 rfl rv7 rfl rv9 rfl (inB.r h17) hR4
  · exact rf_ok (by exact hR)
noncomputable def NL_Y_run_188 (v2 : Int) (v3 : Int) (v7 : Int) (v9 : Int) (m : YS) : Option (YS) :=
  it (fun s : Int × YS => nb_Y_run_188 v2 v3 v7 s.1 s.2) (v9, m)
theorem fL_Y_run_188 {w y : Prop} {g : g_S} {n : NS} {m : YS} (hy : y) {xv2 : Int32} {v2 : Int} (ev2 : xv2 = Int32.ofInt v2) (rv2 : inR v2) {xv3 : Int32} {v3 : Int} (ev3 : xv3 = Int32.ofInt v3) (rv3 : inR v3) {xv7 : Int32} {v7 : Int} (ev7 : xv7 = Int32.ofInt v7) (rv7 : inR v7) {xv9 : Int32} {v9 : Int} (ev9 : xv9 = Int32.ofInt v9) (rv9 : inR v9) (hR : RC w y g n m) : Rf (fun a b => RC w y a n b) (L_Y_run_188 1838 xv2 xv3 xv7 xv9 g) (NL_Y_run_188 v2 v3 v7 v9 m) := by
  subst ev2
  subst ev3
  subst ev7
  subst ev9
  unfold L_Y_run_188 NL_Y_run_188
  refine rf_it (I := (fun a b => RI a.1 b.1 ∧ RC w y a.2 n b.2)) (fun s t h => ?_) ⟨⟨rfl, rv9⟩, hR⟩
  exact fb_Y_run_188 hy rfl rv2 rfl rv3 rfl rv7 h.1.1 h.1.2 h.2
theorem NL_Y_run_188_eq (v2 : Int) (v3 : Int) (v7 : Int) (v9 : Int) (m : YS) : NL_Y_run_188 v2 v3 v7 v9 m = itc (nb_Y_run_188 v2 v3 v7 v9 m) (fun s => NL_Y_run_188 v2 v3 v7 s.1 s.2) := it_eq2 (fun s : Int × YS => nb_Y_run_188 v2 v3 v7 s.1 s.2) (v9, m)
noncomputable def nk_Y_run_185 (v1 : Int) (v2 : Int) (v3 : Int) (v7 : Int) (m : YS) : Option (Int × YS) :=
  (NL_Y_run_188 v2 v3 v7 v1 m).bind <| fun m1 =>
  some (v3, m1)
theorem fk_Y_run_185 {w y : Prop} {g : g_S} {n : NS} {m : YS} (hy : y) {xv1 : Int32} {v1 : Int} (ev1 : xv1 = Int32.ofInt v1) (rv1 : inR v1) {xv2 : Int32} {v2 : Int} (ev2 : xv2 = Int32.ofInt v2) (rv2 : inR v2) {xv3 : Int32} {v3 : Int} (ev3 : xv3 = Int32.ofInt v3) (rv3 : inR v3) {xv7 : Int32} {v7 : Int} (ev7 : xv7 = Int32.ofInt v7) (rv7 : inR v7) (hR : RC w y g n m) : Rf (fun a b => RI a.1 b.1 ∧ RC w y a.2 n b.2) (k_Y_run_185 1838 xv1 xv2 xv3 xv7 g) (nk_Y_run_185 v1 v2 v3 v7 m) := by
  subst ev1
  subst ev2
  subst ev3
  subst ev7
  unfold k_Y_run_185 nk_Y_run_185
  refine rf_bind (fL_Y_run_188 hy rfl rv2 rfl rv3 rfl rv7 rfl rv1 hR) (fun a2 m1 h => ?_)
  have hR3 : RC w y a2 n m1 := h
  exact rf_ok (by exact ⟨⟨rfl, rv3⟩, hR3⟩)
noncomputable def nk_Y_run_148 (v1 : Int) (v2 : Int) (v3 : Int) (v6 : Int) (v7 : Int) (v8 : Int) (m : YS) : Option (Int × YS) :=
  if v8 = 0 then
    (N_Y_fresh v6 m).bind <| u2 fun z3 m6 =>
    if z3 = (-1) then
      (N_Y_tellFault 6 v1 m6).bind fun m11 =>
      some (v3, m11)
    else
      ix z3 120 <|
      st (yw m6 46 z3 17) fun m17 =>
      nk_Y_run_185 v1 v2 v3 z3 m17
  else
    nk_Y_run_185 v1 v2 v3 v7 m
theorem fk_Y_run_148 {w y : Prop} {g : g_S} {n : NS} {m : YS} (hy : y) {xv1 : Int32} {v1 : Int} (ev1 : xv1 = Int32.ofInt v1) (rv1 : inR v1) {xv2 : Int32} {v2 : Int} (ev2 : xv2 = Int32.ofInt v2) (rv2 : inR v2) {xv3 : Int32} {v3 : Int} (ev3 : xv3 = Int32.ofInt v3) (rv3 : inR v3) {xv6 : Int32} {v6 : Int} (ev6 : xv6 = Int32.ofInt v6) (rv6 : inR v6) {xv7 : Int32} {v7 : Int} (ev7 : xv7 = Int32.ofInt v7) (rv7 : inR v7) {xv8 : Int32} {v8 : Int} (ev8 : xv8 = Int32.ofInt v8) (rv8 : inR v8) (hR : RC w y g n m) : Rf (fun a b => RI a.1 b.1 ∧ RC w y a.2 n b.2) (k_Y_run_148 1838 xv1 xv2 xv3 xv6 xv7 xv8 g) (nk_Y_run_148 v1 v2 v3 v6 v7 v8 m) := by
  subst ev1
  subst ev2
  subst ev3
  subst ev6
  subst ev7
  subst ev8
  unfold k_Y_run_148 nk_Y_run_148
  refine rf_eq rfl (e_n 0) rv8 (show inR 0 by decide) ?_ ?_
  · refine v_c2 (y_gt hR hy) ?_
    refine rf_c2 (f_Y_fresh hy rfl rv6 hR) (fun a5 g8 b h => ?_)
    obtain ⟨z3, m6⟩ := b
    refine rf_v2 ?_
    obtain ⟨rfl, r4⟩ := (show RI a5 z3 from h.1)
    have hR7 : RC w y g8 n m6 := h.2
    refine rf_eq rfl (e_m 1) r4 (show inR (-1) by decide) ?_ ?_
    · refine v_c (y_gt hR7 hy) ?_
      refine rf_bind (f_Y_tellFault hy (e_n 6) (show inR 6 by decide) rfl rv1 hR7) (fun g13 m11 hR12 => ?_)
      exact rf_ok (by exact ⟨⟨rfl, rv3⟩, hR12⟩)
    · refine y_Q hR7 hy ya46.1 (by decide) ?_
      refine y_sI hR7 hy ya46 yl46 rfl r4 (e_n 17) (show inR 17 by decide) (fun g19 m17 hR18 => ?_)
      exact fk_Y_run_185 hy rfl rv1 rfl rv2 rfl rv3 rfl r4 hR18
  · exact fk_Y_run_185 hy rfl rv1 rfl rv2 rfl rv3 rfl rv7 hR
noncomputable def nk_Y_run_134 (v1 : Int) (v2 : Int) (v3 : Int) (v4 : Int) (v6 : Int) (v7 : Int) (w0 : Int) (m : YS) : Option (Int × YS) :=
  if v4 = 0 then
    nk_Y_run_148 v1 v2 v3 v6 v7 w0 m
  else
    if w0 = 0 then
      some (v3, m)
    else
      nk_Y_run_148 v1 v2 v3 v6 v7 w0 m
theorem fk_Y_run_134 {w y : Prop} {g : g_S} {n : NS} {m : YS} (hy : y) {xv1 : Int32} {v1 : Int} (ev1 : xv1 = Int32.ofInt v1) (rv1 : inR v1) {xv2 : Int32} {v2 : Int} (ev2 : xv2 = Int32.ofInt v2) (rv2 : inR v2) {xv3 : Int32} {v3 : Int} (ev3 : xv3 = Int32.ofInt v3) (rv3 : inR v3) {xv4 : Int32} {v4 : Int} (ev4 : xv4 = Int32.ofInt v4) (rv4 : inR v4) {xv6 : Int32} {v6 : Int} (ev6 : xv6 = Int32.ofInt v6) (rv6 : inR v6) {xv7 : Int32} {v7 : Int} (ev7 : xv7 = Int32.ofInt v7) (rv7 : inR v7) {xw0 : Int32} {w0 : Int} (ew0 : xw0 = Int32.ofInt w0) (rw0 : inR w0) (hR : RC w y g n m) : Rf (fun a b => RI a.1 b.1 ∧ RC w y a.2 n b.2) (k_Y_run_134 1838 xv1 xv2 xv3 xv4 xv6 xv7 xw0 g) (nk_Y_run_134 v1 v2 v3 v4 v6 v7 w0 m) := by
  subst ev1
  subst ev2
  subst ev3
  subst ev4
  subst ev6
  subst ev7
  subst ew0
  unfold k_Y_run_134 nk_Y_run_134
  refine rf_eq rfl (e_n 0) rv4 (show inR 0 by decide) ?_ ?_
  · exact fk_Y_run_148 hy rfl rv1 rfl rv2 rfl rv3 rfl rv6 rfl rv7 rfl rw0 hR
  · refine rf_eq rfl (e_n 0) rw0 (show inR 0 by decide) ?_ ?_
    · exact rf_ok (by exact ⟨⟨rfl, rv3⟩, hR⟩)
    · exact fk_Y_run_148 hy rfl rv1 rfl rv2 rfl rv3 rfl rv6 rfl rv7 rfl rw0 hR
noncomputable def nk_Y_run_133 (v1 : Int) (v2 : Int) (v3 : Int) (v4 : Int) (v6 : Int) (v7 : Int) (m : YS) : Option (Int × YS) :=
  nk_Y_run_134 v1 v2 v3 v4 v6 v7 0 m
theorem fk_Y_run_133 {w y : Prop} {g : g_S} {n : NS} {m : YS} (hy : y) {xv1 : Int32} {v1 : Int} (ev1 : xv1 = Int32.ofInt v1) (rv1 : inR v1) {xv2 : Int32} {v2 : Int} (ev2 : xv2 = Int32.ofInt v2) (rv2 : inR v2) {xv3 : Int32} {v3 : Int} (ev3 : xv3 = Int32.ofInt v3) (rv3 : inR v3) {xv4 : Int32} {v4 : Int} (ev4 : xv4 = Int32.ofInt v4) (rv4 : inR v4) {xv6 : Int32} {v6 : Int} (ev6 : xv6 = Int32.ofInt v6) (rv6 : inR v6) {xv7 : Int32} {v7 : Int} (ev7 : xv7 = Int32.ofInt v7) (rv7 : inR v7) (hR : RC w y g n m) : Rf (fun a b => RI a.1 b.1 ∧ RC w y a.2 n b.2) (k_Y_run_133 1838 xv1 xv2 xv3 xv4 xv6 xv7 g) (nk_Y_run_133 v1 v2 v3 v4 v6 v7 m) := by
  subst ev1
  subst ev2
  subst ev3
  subst ev4
  subst ev6
  subst ev7
  unfold k_Y_run_133 nk_Y_run_133
  exact fk_Y_run_134 hy rfl rv1 rfl rv2 rfl rv3 rfl rv4 rfl rv6 rfl rv7 (e_n 0) (show inR 0 by decide) hR
noncomputable def N_Y_run (v1 : Int) (v2 : Int) (m : YS) : Option (Int × YS) :=
  (NL_Y_run_8 v1 v2 v1 1 1 m).bind <| u2 fun z1 z2 =>
  ck ((m 74 0) - 1) <|
  ix ((m 74 0) - 1) 22 <|
  ix (m 73 ((m 74 0) - 1)) 120 <|
  if (m 51 (m 73 ((m 74 0) - 1))) = (-1) then
    nk_Y_run_133 v1 v2 z1 z2 (m 73 ((m 74 0) - 1)) (m 51 (m 73 ((m 74 0) - 1))) m
  else
    ix (m 51 (m 73 ((m 74 0) - 1))) 120 <|
    if (m 46 (m 51 (m 73 ((m 74 0) - 1)))) = 17 then
      nk_Y_run_134 v1 v2 z1 z2 (m 73 ((m 74 0) - 1)) (m 51 (m 73 ((m 74 0) - 1))) 1 m
    else
      nk_Y_run_133 v1 v2 z1 z2 (m 73 ((m 74 0) - 1)) (m 51 (m 73 ((m 74 0) - 1))) m
theorem f_Y_run {w y : Prop} {g : g_S} {n : NS} {m : YS} (hy : y) {xv1 : Int32} {v1 : Int} (ev1 : xv1 = Int32.ofInt v1) (rv1 : inR v1) {xv2 : Int32} {v2 : Int} (ev2 : xv2 = Int32.ofInt v2) (rv2 : inR v2) (hR : RC w y g n m) : Rf (fun a b => RI a.1 b.1 ∧ RC w y a.2 n b.2) (M_Y_run 1838 xv1 xv2 g) (N_Y_run v1 v2 m) := by
  subst ev1
  subst ev2
  unfold M_Y_run N_Y_run
  refine rf_bind (fL_Y_run_8 hy rfl rv1 rfl rv2 rfl rv1 (e_n 1) (show inR 1 by decide) (e_n 1) (show inR 1 by decide) hR) (fun a b h => ?_)
  obtain ⟨a3, a4⟩ := a
  obtain ⟨z1, z2⟩ := b
  refine rf_u2 ?_
  obtain ⟨rfl, r5⟩ := (show RI a3 z1 from h.1)
  obtain ⟨rfl, r6⟩ := (show RI a4 z2 from h.2)
  refine y_Q hR hy ya73.1 (by decide) ?_
  refine y_I hR hy yk74 yt74 (fun h8 => ?_)
  refine rf_ck (fun h9 => ?_)
  refine y_aI hR hy ya73 yl73 (e_sub rfl (e_n 1)) h9 (fun h10 h11 => ?_)
  refine y_Q hR hy ya51.1 (by decide) ?_
  refine y_aI hR hy ya51 yl51 rfl h11 (fun h13 h14 => ?_)
  refine rf_eq rfl (e_m 1) h14 (show inR (-1) by decide) ?_ ?_
  · exact fk_Y_run_133 hy rfl rv1 rfl rv2 rfl r5 rfl r6 rfl h11 rfl h14 hR
  · refine y_Q hR hy ya46.1 (by decide) ?_
    refine y_aI hR hy ya46 yl46 rfl h14 (fun h17 h18 => ?_)
    refine rf_eq rfl (e_n 17) h18 (show inR 17 by decide) ?_ ?_
    · exact fk_Y_run_134 hy rfl rv1 rfl rv2 rfl r5 rfl r6 rfl h11 rfl h14 (e_n 1) (show inR 1 by decide) hR
    · exact fk_Y_run_133 hy rfl rv1 rfl rv2 rfl r5 rfl r6 rfl h11 rfl h14 hR
noncomputable def nb_Y_note_4 (v1 : Int) (v2 : Int) (m : YS) : Option ((Int) ⊕ (Int)) :=
  if v2 < (m 76 0) then
    (N_Y_isAt v2 45 45 62 m).bind fun z4 =>
    if z4 = 0 then
      ck (v2 + 1) <|
      some (.inl (v2 + 1))
    else
      some (.inr v2)
  else
    some (.inr v2)
theorem fb_Y_note_4 {w y : Prop} {g : g_S} {n : NS} {m : YS} (hy : y) {xv1 : Int32} {v1 : Int} (ev1 : xv1 = Int32.ofInt v1) (rv1 : inR v1) {xv2 : Int32} {v2 : Int} (ev2 : xv2 = Int32.ofInt v2) (rv2 : inR v2) (hR : RC w y g n m) : Rf (RS (fun a b => RI a b) (fun a b => RI a b)) (b_Y_note_4 1838 xv1 xv2 g) (nb_Y_note_4 v1 v2 m) := by
  subst ev1
  subst ev2
  unfold b_Y_note_4 nb_Y_note_4
  refine y_I hR hy yk76 yt76 (fun h1 => ?_)
  refine rf_lt rfl rfl rv2 h1 ?_ ?_
  · refine v_c (y_gt hR hy) ?_
    refine rf_bind (f_Y_isAt hy rfl rv2 (e_n 45) (show inR 45 by decide) (e_n 45) (show inR 45 by decide) (e_n 62) (show inR 62 by decide) hR) (fun a6 z4 h => ?_)
    obtain ⟨rfl, r5⟩ := h
    refine rf_eq rfl (e_n 0) (inZ.r r5) (show inR 0 by decide) ?_ ?_
    · refine rf_ck (fun h8 => ?_)
      exact rf_ok (by exact ⟨(e_add rfl (e_n 1)), h8⟩)
    · exact rf_ok (by exact ⟨rfl, rv2⟩)
  · exact rf_ok (by exact ⟨rfl, rv2⟩)
noncomputable def NL_Y_note_4 (v1 : Int) (v2 : Int) (m : YS) : Option (Int) :=
  it (fun s : Int => nb_Y_note_4 v1 s m) (v2)
theorem fL_Y_note_4 {w y : Prop} {g : g_S} {n : NS} {m : YS} (hy : y) {xv1 : Int32} {v1 : Int} (ev1 : xv1 = Int32.ofInt v1) (rv1 : inR v1) {xv2 : Int32} {v2 : Int} (ev2 : xv2 = Int32.ofInt v2) (rv2 : inR v2) (hR : RC w y g n m) : Rf (fun a b => RI a b) (L_Y_note_4 1838 xv1 xv2 g) (NL_Y_note_4 v1 v2 m) := by
  subst ev1
  subst ev2
  unfold L_Y_note_4 NL_Y_note_4
  refine rf_it (I := (fun a b => RI a b)) (fun s t h => ?_) ⟨rfl, rv2⟩
  exact fb_Y_note_4 hy rfl rv1 h.1 h.2 hR
theorem NL_Y_note_4_eq (v1 : Int) (v2 : Int) (m : YS) : NL_Y_note_4 v1 v2 m = itc (nb_Y_note_4 v1 v2 m) (fun s => NL_Y_note_4 v1 s m) := it_eq2 (fun s : Int => nb_Y_note_4 v1 s m) (v2)
noncomputable def nk_Y_note_32 (v1 : Int) (v2 : Int) (m : YS) : Option (Int × YS) :=
  if v2 < (m 76 0) then
    ck (v2 + 3) <|
    some (v2 + 3, m)
  else
    (N_Y_tellFault 1 v1 m).bind fun m6 =>
    some ((m6 76 0), m6)
theorem fk_Y_note_32 {w y : Prop} {g : g_S} {n : NS} {m : YS} (hy : y) {xv1 : Int32} {v1 : Int} (ev1 : xv1 = Int32.ofInt v1) (rv1 : inR v1) {xv2 : Int32} {v2 : Int} (ev2 : xv2 = Int32.ofInt v2) (rv2 : inR v2) (hR : RC w y g n m) : Rf (fun a b => RI a.1 b.1 ∧ RC w y a.2 n b.2) (k_Y_note_32 1838 xv1 xv2 g) (nk_Y_note_32 v1 v2 m) := by
  subst ev1
  subst ev2
  unfold k_Y_note_32 nk_Y_note_32
  refine y_I hR hy yk76 yt76 (fun h1 => ?_)
  refine rf_lt rfl rfl rv2 h1 ?_ ?_
  · refine rf_ck (fun h3 => ?_)
    exact rf_ok (by exact ⟨⟨(e_add rfl (e_n 3)), h3⟩, hR⟩)
  · refine v_c (y_gt hR hy) ?_
    refine rf_bind (f_Y_tellFault hy (e_n 1) (show inR 1 by decide) rfl rv1 hR) (fun g8 m6 hR7 => ?_)
    refine y_I hR7 hy yk76 yt76 (fun h9 => ?_)
    exact rf_ok (by exact ⟨⟨rfl, h9⟩, hR7⟩)
noncomputable def N_Y_note (v1 : Int) (m : YS) : Option (Int × YS) :=
  ck (v1 + 4) <|
  (NL_Y_note_4 v1 (v1 + 4) m).bind <| fun z2 =>
  nk_Y_note_32 v1 z2 m
theorem f_Y_note {w y : Prop} {g : g_S} {n : NS} {m : YS} (hy : y) {xv1 : Int32} {v1 : Int} (ev1 : xv1 = Int32.ofInt v1) (rv1 : inR v1) (hR : RC w y g n m) : Rf (fun a b => RI a.1 b.1 ∧ RC w y a.2 n b.2) (M_Y_note 1838 xv1 g) (N_Y_note v1 m) := by
  subst ev1
  unfold M_Y_note N_Y_note
  refine rf_ck (fun h1 => ?_)
  refine rf_bind (fL_Y_note_4 hy rfl rv1 (e_add rfl (e_n 4)) h1 hR) (fun a3 z2 h => ?_)
  obtain ⟨rfl, r4⟩ := (show RI a3 z2 from h)
  exact fk_Y_note_32 hy rfl rv1 rfl r4 hR
noncomputable def N_Y_small (v0 : Int) (m : YS) : Option (Int) :=
  if v0 < 65 then
    some v0
  else
    if 90 < v0 then
      some v0
    else
      ck (v0 + 32) <|
      some (v0 + 32)
theorem f_Y_small {w y : Prop} {g : g_S} {n : NS} {m : YS} (hy : y) {xv0 : Int32} {v0 : Int} (ev0 : xv0 = Int32.ofInt v0) (rv0 : inR v0) (hR : RC w y g n m) : Rf (fun a b => RI a b) (M_Y_small xv0 g) (N_Y_small v0 m) := by
  subst ev0
  unfold M_Y_small N_Y_small
  refine rf_lt rfl (e_n 65) rv0 (show inR 65 by decide) ?_ ?_
  · exact rf_ok (by exact ⟨rfl, rv0⟩)
  · refine rf_lt (e_n 90) rfl (show inR 90 by decide) rv0 ?_ ?_
    · exact rf_ok (by exact ⟨rfl, rv0⟩)
    · refine rf_ck (fun h5 => ?_)
      exact rf_ok (by exact ⟨(e_add rfl (e_n 32)), h5⟩)
noncomputable def nb_Y_readAttribute_438 (v2 : Int) (v3 : Int) (v4 : Int) (v6 : Int) (m : YS) : Option ((Int × YS) ⊕ (YS)) :=
  if v6 < v2 then
    ck (8 * (m 80 0)) <|
    ck ((8 * (m 80 0)) + v6) <|
    ix v6 8 <|
    ix ((8 * (m 80 0)) + v6) 32 <|
    st (yw m 81 ((8 * (m 80 0)) + v6) (m 87 v6)) fun m10 =>
    ck (v6 + 1) <|
    some (.inl (v6 + 1, m10))
  else
    some (.inr m)
theorem fb_Y_readAttribute_438 {w y : Prop} {g : g_S} {n : NS} {m : YS} (hy : y) {xv2 : Int32} {v2 : Int} (ev2 : xv2 = Int32.ofInt v2) (rv2 : inR v2) {xv3 : Int32} {v3 : Int} (ev3 : xv3 = Int32.ofInt v3) (rv3 : inR v3) {xv4 : Int32} {v4 : Int} (ev4 : xv4 = Int32.ofInt v4) (rv4 : inR v4) {xv6 : Int32} {v6 : Int} (ev6 : xv6 = Int32.ofInt v6) (rv6 : inR v6) (hR : RC w y g n m) : Rf (RS (fun a b => RI a.1 b.1 ∧ RC w y a.2 n b.2) (fun a b => RC w y a n b)) (b_Y_readAttribute_438 1838 xv2 xv3 xv4 xv6 g) (nb_Y_readAttribute_438 v2 v3 v4 v6 m) := by
  subst ev2
  subst ev3
  subst ev4
  subst ev6
  unfold b_Y_readAttribute_438 nb_Y_readAttribute_438
  refine rf_lt rfl rfl rv6 rv2 ?_ ?_
  · refine y_Q hR hy ya81.1 (by decide) ?_
    refine y_I hR hy yk80 yt80 (fun h3 => ?_)
    refine rf_ck (fun h4 => ?_)
    refine rf_ck (fun h5 => ?_)
    refine y_Q hR hy ya87.1 (by decide) ?_
    refine y_aB hR hy ya87 yl87 rfl rv6 (fun h7 h8 => ?_)
    refine y_sB hR hy ya81 yl81 (e_add (e_mul (e_n 8) rfl) rfl) h5 rfl h8 (fun g12 m10 hR11 => ?_)
    refine rf_ck (fun h13 => ?_)
    exact rf_ok (by exact ⟨⟨(e_add rfl (e_n 1)), h13⟩, hR11⟩)
  · exact rf_ok (by exact hR)
noncomputable def NL_Y_readAttribute_438 (v2 : Int) (v3 : Int) (v4 : Int) (v6 : Int) (m : YS) : Option (YS) :=
  it (fun s : Int × YS => nb_Y_readAttribute_438 v2 v3 v4 s.1 s.2) (v6, m)
theorem fL_Y_readAttribute_438 {w y : Prop} {g : g_S} {n : NS} {m : YS} (hy : y) {xv2 : Int32} {v2 : Int} (ev2 : xv2 = Int32.ofInt v2) (rv2 : inR v2) {xv3 : Int32} {v3 : Int} (ev3 : xv3 = Int32.ofInt v3) (rv3 : inR v3) {xv4 : Int32} {v4 : Int} (ev4 : xv4 = Int32.ofInt v4) (rv4 : inR v4) {xv6 : Int32} {v6 : Int} (ev6 : xv6 = Int32.ofInt v6) (rv6 : inR v6) (hR : RC w y g n m) : Rf (fun a b => RC w y a n b) (L_Y_readAttribute_438 1838 xv2 xv3 xv4 xv6 g) (NL_Y_readAttribute_438 v2 v3 v4 v6 m) := by
  subst ev2
  subst ev3
  subst ev4
  subst ev6
  unfold L_Y_readAttribute_438 NL_Y_readAttribute_438
  refine rf_it (I := (fun a b => RI a.1 b.1 ∧ RC w y a.2 n b.2)) (fun s t h => ?_) ⟨⟨rfl, rv6⟩, hR⟩
  exact fb_Y_readAttribute_438 hy rfl rv2 rfl rv3 rfl rv4 h.1.1 h.1.2 h.2
theorem NL_Y_readAttribute_438_eq (v2 : Int) (v3 : Int) (v4 : Int) (v6 : Int) (m : YS) : NL_Y_readAttribute_438 v2 v3 v4 v6 m = itc (nb_Y_readAttribute_438 v2 v3 v4 v6 m) (fun s => NL_Y_readAttribute_438 v2 v3 v4 s.1 s.2) := it_eq2 (fun s : Int × YS => nb_Y_readAttribute_438 v2 v3 v4 s.1 s.2) (v6, m)
noncomputable def nb_Y_readAttribute_475 (v3 : Int) (v4 : Int) (v6 : Int) (m : YS) : Option ((Int × YS) ⊕ (YS)) :=
  if v6 < v4 then
    ck (60 * (m 80 0)) <|
    ck ((60 * (m 80 0)) + v6) <|
    ix v6 60 <|
    ix ((60 * (m 80 0)) + v6) 240 <|
    st (yw m 83 ((60 * (m 80 0)) + v6) (m 88 v6)) fun m10 =>
    ck (v6 + 1) <|
    some (.inl (v6 + 1, m10))
  else
    some (.inr m)
theorem fb_Y_readAttribute_475 {w y : Prop} {g : g_S} {n : NS} {m : YS} (hy : y) {xv3 : Int32} {v3 : Int} (ev3 : xv3 = Int32.ofInt v3) (rv3 : inR v3) {xv4 : Int32} {v4 : Int} (ev4 : xv4 = Int32.ofInt v4) (rv4 : inR v4) {xv6 : Int32} {v6 : Int} (ev6 : xv6 = Int32.ofInt v6) (rv6 : inR v6) (hR : RC w y g n m) : Rf (RS (fun a b => RI a.1 b.1 ∧ RC w y a.2 n b.2) (fun a b => RC w y a n b)) (b_Y_readAttribute_475 1838 xv3 xv4 xv6 g) (nb_Y_readAttribute_475 v3 v4 v6 m) := by
  subst ev3
  subst ev4
  subst ev6
  unfold b_Y_readAttribute_475 nb_Y_readAttribute_475
  refine rf_lt rfl rfl rv6 rv4 ?_ ?_
  · refine y_Q hR hy ya83.1 (by decide) ?_
    refine y_I hR hy yk80 yt80 (fun h3 => ?_)
    refine rf_ck (fun h4 => ?_)
    refine rf_ck (fun h5 => ?_)
    refine y_Q hR hy ya88.1 (by decide) ?_
    refine y_aB hR hy ya88 yl88 rfl rv6 (fun h7 h8 => ?_)
    refine y_sB hR hy ya83 yl83 (e_add (e_mul (e_n 60) rfl) rfl) h5 rfl h8 (fun g12 m10 hR11 => ?_)
    refine rf_ck (fun h13 => ?_)
    exact rf_ok (by exact ⟨⟨(e_add rfl (e_n 1)), h13⟩, hR11⟩)
  · exact rf_ok (by exact hR)
noncomputable def NL_Y_readAttribute_475 (v3 : Int) (v4 : Int) (v6 : Int) (m : YS) : Option (YS) :=
  it (fun s : Int × YS => nb_Y_readAttribute_475 v3 v4 s.1 s.2) (v6, m)
theorem fL_Y_readAttribute_475 {w y : Prop} {g : g_S} {n : NS} {m : YS} (hy : y) {xv3 : Int32} {v3 : Int} (ev3 : xv3 = Int32.ofInt v3) (rv3 : inR v3) {xv4 : Int32} {v4 : Int} (ev4 : xv4 = Int32.ofInt v4) (rv4 : inR v4) {xv6 : Int32} {v6 : Int} (ev6 : xv6 = Int32.ofInt v6) (rv6 : inR v6) (hR : RC w y g n m) : Rf (fun a b => RC w y a n b) (L_Y_readAttribute_475 1838 xv3 xv4 xv6 g) (NL_Y_readAttribute_475 v3 v4 v6 m) := by
  subst ev3
  subst ev4
  subst ev6
  unfold L_Y_readAttribute_475 NL_Y_readAttribute_475
  refine rf_it (I := (fun a b => RI a.1 b.1 ∧ RC w y a.2 n b.2)) (fun s t h => ?_) ⟨⟨rfl, rv6⟩, hR⟩
  exact fb_Y_readAttribute_475 hy rfl rv3 rfl rv4 h.1.1 h.1.2 h.2
theorem NL_Y_readAttribute_475_eq (v3 : Int) (v4 : Int) (v6 : Int) (m : YS) : NL_Y_readAttribute_475 v3 v4 v6 m = itc (nb_Y_readAttribute_475 v3 v4 v6 m) (fun s => NL_Y_readAttribute_475 v3 v4 s.1 s.2) := it_eq2 (fun s : Int × YS => nb_Y_readAttribute_475 v3 v4 s.1 s.2) (v6, m)
noncomputable def nk_Y_readAttribute_275 (v1 : Int) (v2 : Int) (v3 : Int) (v4 : Int) (v5 : Int) (v6 : Int) (m : YS) : Option ((Int × Int × YS) ⊕ (Int × Int × YS)) :=
  ck (v3 + (m 77 0)) <|
  some (.inl (v3 + (m 77 0), v4, m))
theorem fk_Y_readAttribute_275 {w y : Prop} {g : g_S} {n : NS} {m : YS} (hy : y) {xv1 : Int32} {v1 : Int} (ev1 : xv1 = Int32.ofInt v1) (rv1 : inR v1) {xv2 : Int32} {v2 : Int} (ev2 : xv2 = Int32.ofInt v2) (rv2 : inR v2) {xv3 : Int32} {v3 : Int} (ev3 : xv3 = Int32.ofInt v3) (rv3 : inR v3) {xv4 : Int32} {v4 : Int} (ev4 : xv4 = Int32.ofInt v4) (rv4 : inR v4) {xv5 : Int32} {v5 : Int} (ev5 : xv5 = Int32.ofInt v5) (rv5 : inR v5) {xv6 : Int32} {v6 : Int} (ev6 : xv6 = Int32.ofInt v6) (rv6 : inR v6) (hR : RC w y g n m) : Rf (RS (fun a b => RI a.1 b.1 ∧ RI a.2.1 b.2.1 ∧ RC w y a.2.2 n b.2.2) (fun a b => RI a.1 b.1 ∧ RI a.2.1 b.2.1 ∧ RC w y a.2.2 n b.2.2)) (k_Y_readAttribute_275 1838 xv1 xv2 xv3 xv4 xv5 xv6 g) (nk_Y_readAttribute_275 v1 v2 v3 v4 v5 v6 m) := by
  subst ev1
  subst ev2
  subst ev3
  subst ev4
  subst ev5
  subst ev6
  unfold k_Y_readAttribute_275 nk_Y_readAttribute_275
  refine y_I hR hy yk77 yt77 (fun h1 => ?_)
  refine rf_ck (fun h2 => ?_)
  exact rf_ok (by exact ⟨⟨(e_add rfl rfl), h2⟩, ⟨rfl, rv4⟩, hR⟩)
noncomputable def nb_Y_readAttribute_236 (v1 : Int) (v2 : Int) (v5 : Int) (v6 : Int) (v3 : Int) (v4 : Int) (m : YS) : Option ((Int × Int × YS) ⊕ (Int × Int × YS)) :=
  if v3 < v6 then
    (N_Y_entity 75 v3 v6 m).bind <| u2 fun z4 m7 =>
    if v4 < 60 then
      ix v4 60 <|
      st (yw m7 88 v4 (Int.bmod z4 256)) fun m13 =>
      ck (v4 + 1) <|
      nk_Y_readAttribute_275 v1 v2 v3 (v4 + 1) v5 v6 m13
    else
      nk_Y_readAttribute_275 v1 v2 v3 v4 v5 v6 m7
  else
    some (.inr (v3, v4, m))
theorem fb_Y_readAttribute_236 {w y : Prop} {g : g_S} {n : NS} {m : YS} (hy : y) {xv1 : Int32} {v1 : Int} (ev1 : xv1 = Int32.ofInt v1) (rv1 : inR v1) {xv2 : Int32} {v2 : Int} (ev2 : xv2 = Int32.ofInt v2) (rv2 : inR v2) {xv5 : Int32} {v5 : Int} (ev5 : xv5 = Int32.ofInt v5) (rv5 : inR v5) {xv6 : Int32} {v6 : Int} (ev6 : xv6 = Int32.ofInt v6) (rv6 : inR v6) {xv3 : Int32} {v3 : Int} (ev3 : xv3 = Int32.ofInt v3) (rv3 : inR v3) {xv4 : Int32} {v4 : Int} (ev4 : xv4 = Int32.ofInt v4) (rv4 : inR v4) (hR : RC w y g n m) : Rf (RS (fun a b => RI a.1 b.1 ∧ RI a.2.1 b.2.1 ∧ RC w y a.2.2 n b.2.2) (fun a b => RI a.1 b.1 ∧ RI a.2.1 b.2.1 ∧ RC w y a.2.2 n b.2.2)) (b_Y_readAttribute_236 1838 xv1 xv2 xv5 xv6 xv3 xv4 g) (nb_Y_readAttribute_236 v1 v2 v5 v6 v3 v4 m) := by
  subst ev1
  subst ev2
  subst ev5
  subst ev6
  subst ev3
  subst ev4
  unfold b_Y_readAttribute_236 nb_Y_readAttribute_236
  refine rf_lt rfl rfl rv3 rv6 ?_ ?_
  · refine y_Q hR hy ya75.1 (by decide) ?_
    refine v_c2 (y_gt hR hy) ?_
    refine rf_c2 (f_Y_entity hy rfl ya75 rfl rv3 rfl rv6 hR) (fun a6 g9 b h => ?_)
    obtain ⟨z4, m7⟩ := b
    refine rf_v2 ?_
    obtain ⟨rfl, r5⟩ := (show RI a6 z4 from h.1)
    have hR8 : RC w y g9 n m7 := h.2
    refine rf_lt rfl (e_n 60) rv4 (show inR 60 by decide) ?_ ?_
    · refine y_Q hR8 hy ya88.1 (by decide) ?_
      refine y_sB hR8 hy ya88 yl88 rfl rv4 (e_b rfl) b_b (fun g15 m13 hR14 => ?_)
      refine rf_ck (fun h16 => ?_)
      exact fk_Y_readAttribute_275 hy rfl rv1 rfl rv2 rfl rv3 (e_add rfl (e_n 1)) h16 rfl rv5 rfl rv6 hR14
    · exact fk_Y_readAttribute_275 hy rfl rv1 rfl rv2 rfl rv3 rfl rv4 rfl rv5 rfl rv6 hR8
  · exact rf_ok (by exact ⟨⟨rfl, rv3⟩, ⟨rfl, rv4⟩, hR⟩)
noncomputable def NL_Y_readAttribute_236 (v1 : Int) (v2 : Int) (v5 : Int) (v6 : Int) (v3 : Int) (v4 : Int) (m : YS) : Option (Int × Int × YS) :=
  it (fun s : Int × Int × YS => nb_Y_readAttribute_236 v1 v2 v5 v6 s.1 s.2.1 s.2.2) (v3, v4, m)
theorem fL_Y_readAttribute_236 {w y : Prop} {g : g_S} {n : NS} {m : YS} (hy : y) {xv1 : Int32} {v1 : Int} (ev1 : xv1 = Int32.ofInt v1) (rv1 : inR v1) {xv2 : Int32} {v2 : Int} (ev2 : xv2 = Int32.ofInt v2) (rv2 : inR v2) {xv5 : Int32} {v5 : Int} (ev5 : xv5 = Int32.ofInt v5) (rv5 : inR v5) {xv6 : Int32} {v6 : Int} (ev6 : xv6 = Int32.ofInt v6) (rv6 : inR v6) {xv3 : Int32} {v3 : Int} (ev3 : xv3 = Int32.ofInt v3) (rv3 : inR v3) {xv4 : Int32} {v4 : Int} (ev4 : xv4 = Int32.ofInt v4) (rv4 : inR v4) (hR : RC w y g n m) : Rf (fun a b => RI a.1 b.1 ∧ RI a.2.1 b.2.1 ∧ RC w y a.2.2 n b.2.2) (L_Y_readAttribute_236 1838 xv1 xv2 xv5 xv6 xv3 xv4 g) (NL_Y_readAttribute_236 v1 v2 v5 v6 v3 v4 m) := by
  subst ev1
  subst ev2
  subst ev5
  subst ev6
  subst ev3
  subst ev4
  unfold L_Y_readAttribute_236 NL_Y_readAttribute_236
  refine rf_it (I := (fun a b => RI a.1 b.1 ∧ RI a.2.1 b.2.1 ∧ RC w y a.2.2 n b.2.2)) (fun s t h => ?_) ⟨⟨rfl, rv3⟩, ⟨rfl, rv4⟩, hR⟩
  exact fb_Y_readAttribute_236 hy rfl rv1 rfl rv2 rfl rv5 rfl rv6 h.1.1 h.1.2 h.2.1.1 h.2.1.2 h.2.2
theorem NL_Y_readAttribute_236_eq (v1 : Int) (v2 : Int) (v5 : Int) (v6 : Int) (v3 : Int) (v4 : Int) (m : YS) : NL_Y_readAttribute_236 v1 v2 v5 v6 v3 v4 m = itc (nb_Y_readAttribute_236 v1 v2 v5 v6 v3 v4 m) (fun s => NL_Y_readAttribute_236 v1 v2 v5 v6 s.1 s.2.1 s.2.2) := it_eq2 (fun s : Int × Int × YS => nb_Y_readAttribute_236 v1 v2 v5 v6 s.1 s.2.1 s.2.2) (v3, v4, m)
noncomputable def nb_Y_readAttribute_176 (v1 : Int) (v2 : Int) (v3 : Int) (v4 : Int) (v5 : Int) (v6 : Int) (m : YS) : Option ((Int) ⊕ (Int)) :=
  if v6 < (m 76 0) then
    if 0 < v5 then
      ix v6 2000 <|
      if (m 75 v6) = v5 then
        some (.inr v6)
      else
        ck (v6 + 1) <|
        some (.inl (v6 + 1))
    else
      ix v6 2000 <|
      (N_Y_isBlank (m 75 v6) m).bind fun z13 =>
      if z13 = 0 then
        ix v6 2000 <|
        if (m 75 v6) = 62 then
          some (.inr v6)
        else
          ck (v6 + 1) <|
          some (.inl (v6 + 1))
      else
        some (.inr v6)
  else
    some (.inr v6)
theorem fb_Y_readAttribute_176 {w y : Prop} {g : g_S} {n : NS} {m : YS} (hy : y) {xv1 : Int32} {v1 : Int} (ev1 : xv1 = Int32.ofInt v1) (rv1 : inR v1) {xv2 : Int32} {v2 : Int} (ev2 : xv2 = Int32.ofInt v2) (rv2 : inR v2) {xv3 : Int32} {v3 : Int} (ev3 : xv3 = Int32.ofInt v3) (rv3 : inR v3) {xv4 : Int32} {v4 : Int} (ev4 : xv4 = Int32.ofInt v4) (rv4 : inR v4) {xv5 : Int32} {v5 : Int} (ev5 : xv5 = Int32.ofInt v5) (rv5 : inR v5) {xv6 : Int32} {v6 : Int} (ev6 : xv6 = Int32.ofInt v6) (rv6 : inR v6) (hR : RC w y g n m) : Rf (RS (fun a b => RI a b) (fun a b => RI a b)) (b_Y_readAttribute_176 1838 xv1 xv2 xv3 xv4 xv5 xv6 g) (nb_Y_readAttribute_176 v1 v2 v3 v4 v5 v6 m) := by
  subst ev1
  subst ev2
  subst ev3
  subst ev4
  subst ev5
  subst ev6
  unfold b_Y_readAttribute_176 nb_Y_readAttribute_176
  refine y_I hR hy yk76 yt76 (fun h1 => ?_)
  refine rf_lt rfl rfl rv6 h1 ?_ ?_
  · refine rf_lt (e_n 0) rfl (show inR 0 by decide) rv5 ?_ ?_
    · refine y_Q hR hy ya75.1 (by decide) ?_
      refine y_aB hR hy ya75 yl75 rfl rv6 (fun h5 h6 => ?_)
      refine rf_eq rfl rfl (inB.r h6) rv5 ?_ ?_
      · exact rf_ok (by exact ⟨rfl, rv6⟩)
      · refine rf_ck (fun h8 => ?_)
        exact rf_ok (by exact ⟨(e_add rfl (e_n 1)), h8⟩)
    · refine y_Q hR hy ya75.1 (by decide) ?_
      refine y_aB hR hy ya75 yl75 rfl rv6 (fun h10 h11 => ?_)
      refine rf_bind (f_Y_isBlank hy rfl (inB.r h11) hR) (fun a15 z13 h => ?_)
      obtain ⟨rfl, r14⟩ := h
      refine rf_eq rfl (e_n 0) (inZ.r r14) (show inR 0 by decide) ?_ ?_
      · refine y_Q hR hy ya75.1 (by decide) ?_
        refine y_aB hR hy ya75 yl75 rfl rv6 (fun h18 h19 => ?_)
        refine rf_eq rfl (e_n 62) (inB.r h19) (show inR 62 by decide) ?_ ?_
        · exact rf_ok (by exact ⟨rfl, rv6⟩)
        · refine rf_ck (fun h21 => ?_)
          exact rf_ok (by exact ⟨(e_add rfl (e_n 1)), h21⟩)
      · exact rf_ok (by exact ⟨rfl, rv6⟩)
  · exact rf_ok (by exact ⟨rfl, rv6⟩)
noncomputable def NL_Y_readAttribute_176 (v1 : Int) (v2 : Int) (v3 : Int) (v4 : Int) (v5 : Int) (v6 : Int) (m : YS) : Option (Int) :=
  it (fun s : Int => nb_Y_readAttribute_176 v1 v2 v3 v4 v5 s m) (v6)
theorem fL_Y_readAttribute_176 {w y : Prop} {g : g_S} {n : NS} {m : YS} (hy : y) {xv1 : Int32} {v1 : Int} (ev1 : xv1 = Int32.ofInt v1) (rv1 : inR v1) {xv2 : Int32} {v2 : Int} (ev2 : xv2 = Int32.ofInt v2) (rv2 : inR v2) {xv3 : Int32} {v3 : Int} (ev3 : xv3 = Int32.ofInt v3) (rv3 : inR v3) {xv4 : Int32} {v4 : Int} (ev4 : xv4 = Int32.ofInt v4) (rv4 : inR v4) {xv5 : Int32} {v5 : Int} (ev5 : xv5 = Int32.ofInt v5) (rv5 : inR v5) {xv6 : Int32} {v6 : Int} (ev6 : xv6 = Int32.ofInt v6) (rv6 : inR v6) (hR : RC w y g n m) : Rf (fun a b => RI a b) (L_Y_readAttribute_176 1838 xv1 xv2 xv3 xv4 xv5 xv6 g) (NL_Y_readAttribute_176 v1 v2 v3 v4 v5 v6 m) := by
  subst ev1
  subst ev2
  subst ev3
  subst ev4
  subst ev5
  subst ev6
  unfold L_Y_readAttribute_176 NL_Y_readAttribute_176
  refine rf_it (I := (fun a b => RI a b)) (fun s t h => ?_) ⟨rfl, rv6⟩
  exact fb_Y_readAttribute_176 hy rfl rv1 rfl rv2 rfl rv3 rfl rv4 rfl rv5 h.1 h.2 hR
theorem NL_Y_readAttribute_176_eq (v1 : Int) (v2 : Int) (v3 : Int) (v4 : Int) (v5 : Int) (v6 : Int) (m : YS) : NL_Y_readAttribute_176 v1 v2 v3 v4 v5 v6 m = itc (nb_Y_readAttribute_176 v1 v2 v3 v4 v5 v6 m) (fun s => NL_Y_readAttribute_176 v1 v2 v3 v4 v5 s m) := it_eq2 (fun s : Int => nb_Y_readAttribute_176 v1 v2 v3 v4 v5 s m) (v6)
noncomputable def nk_Y_readAttribute_366 (v1 : Int) (v2 : Int) (v3 : Int) (v4 : Int) (v6 : Int) (m : YS) : Option ((Int × Int) ⊕ (Int)) :=
  ck (v6 + 1) <|
  some (.inl (1, v6 + 1))
theorem fk_Y_readAttribute_366 {w y : Prop} {g : g_S} {n : NS} {m : YS} (hy : y) {xv1 : Int32} {v1 : Int} (ev1 : xv1 = Int32.ofInt v1) (rv1 : inR v1) {xv2 : Int32} {v2 : Int} (ev2 : xv2 = Int32.ofInt v2) (rv2 : inR v2) {xv3 : Int32} {v3 : Int} (ev3 : xv3 = Int32.ofInt v3) (rv3 : inR v3) {xv4 : Int32} {v4 : Int} (ev4 : xv4 = Int32.ofInt v4) (rv4 : inR v4) {xv6 : Int32} {v6 : Int} (ev6 : xv6 = Int32.ofInt v6) (rv6 : inR v6) (hR : RC w y g n m) : Rf (RS (fun a b => RI a.1 b.1 ∧ RI a.2 b.2) (fun a b => RI a b)) (k_Y_readAttribute_366 1838 xv1 xv2 xv3 xv4 xv6 g) (nk_Y_readAttribute_366 v1 v2 v3 v4 v6 m) := by
  subst ev1
  subst ev2
  subst ev3
  subst ev4
  subst ev6
  unfold k_Y_readAttribute_366 nk_Y_readAttribute_366
  refine rf_ck (fun h1 => ?_)
  exact rf_ok (by exact ⟨⟨(e_n 1), (show inR 1 by decide)⟩, ⟨(e_add rfl (e_n 1)), h1⟩⟩)
noncomputable def nb_Y_readAttribute_320 (v1 : Int) (v2 : Int) (v3 : Int) (v4 : Int) (v5 : Int) (v6 : Int) (m : YS) : Option ((Int × Int) ⊕ (Int)) :=
  if v6 < (m 80 0) then
    if v5 = 0 then
      ix v6 4 <|
      if (m 82 v6) = v2 then
        ck (8 * v6) <|
        (N_Y_same 81 (8 * v6) 87 0 v2 m).bind fun z12 =>
        if z12 = 0 then
          ck (v6 + 1) <|
          some (.inl (0, v6 + 1))
        else
          nk_Y_readAttribute_366 v1 v2 v3 v4 v6 m
      else
        ck (v6 + 1) <|
        some (.inl (0, v6 + 1))
    else
      nk_Y_readAttribute_366 v1 v2 v3 v4 v6 m
  else
    some (.inr v5)
theorem fb_Y_readAttribute_320 {w y : Prop} {g : g_S} {n : NS} {m : YS} (hy : y) {xv1 : Int32} {v1 : Int} (ev1 : xv1 = Int32.ofInt v1) (rv1 : inR v1) {xv2 : Int32} {v2 : Int} (ev2 : xv2 = Int32.ofInt v2) (rv2 : inR v2) {xv3 : Int32} {v3 : Int} (ev3 : xv3 = Int32.ofInt v3) (rv3 : inR v3) {xv4 : Int32} {v4 : Int} (ev4 : xv4 = Int32.ofInt v4) (rv4 : inR v4) {xv5 : Int32} {v5 : Int} (ev5 : xv5 = Int32.ofInt v5) (rv5 : inR v5) {xv6 : Int32} {v6 : Int} (ev6 : xv6 = Int32.ofInt v6) (rv6 : inR v6) (hR : RC w y g n m) : Rf (RS (fun a b => RI a.1 b.1 ∧ RI a.2 b.2) (fun a b => RI a b)) (b_Y_readAttribute_320 1838 xv1 xv2 xv3 xv4 xv5 xv6 g) (nb_Y_readAttribute_320 v1 v2 v3 v4 v5 v6 m) := by
  subst ev1
  subst ev2
  subst ev3
  subst ev4
  subst ev5
  subst ev6
  unfold b_Y_readAttribute_320 nb_Y_readAttribute_320
  refine y_I hR hy yk80 yt80 (fun h1 => ?_)
  refine rf_lt rfl rfl rv6 h1 ?_ ?_
  · refine rf_eq rfl (e_n 0) rv5 (show inR 0 by decide) ?_ ?_
    · refine y_Q hR hy ya82.1 (by decide) ?_
      refine y_aI hR hy ya82 yl82 rfl rv6 (fun h5 h6 => ?_)
      refine rf_eq rfl rfl h6 rv2 ?_ ?_
      · refine y_Q hR hy ya81.1 (by decide) ?_
        refine rf_ck (fun h9 => ?_)
        refine y_Q hR hy ya87.1 (by decide) ?_
        refine rf_bind (f_Y_same hy rfl ya81 (e_mul (e_n 8) rfl) h9 rfl ya87 (e_n 0) (show inR 0 by decide) rfl rv2 hR) (fun a14 z12 h => ?_)
        obtain ⟨rfl, r13⟩ := h
        refine rf_eq rfl (e_n 0) (inZ.r r13) (show inR 0 by decide) ?_ ?_
        · refine rf_ck (fun h16 => ?_)
          exact rf_ok (by exact ⟨⟨(e_n 0), (show inR 0 by decide)⟩, ⟨(e_add rfl (e_n 1)), h16⟩⟩)
        · exact fk_Y_readAttribute_366 hy rfl rv1 rfl rv2 rfl rv3 rfl rv4 rfl rv6 hR
      · refine rf_ck (fun h17 => ?_)
        exact rf_ok (by exact ⟨⟨(e_n 0), (show inR 0 by decide)⟩, ⟨(e_add rfl (e_n 1)), h17⟩⟩)
    · exact fk_Y_readAttribute_366 hy rfl rv1 rfl rv2 rfl rv3 rfl rv4 rfl rv6 hR
  · exact rf_ok (by exact ⟨rfl, rv5⟩)
noncomputable def NL_Y_readAttribute_320 (v1 : Int) (v2 : Int) (v3 : Int) (v4 : Int) (v5 : Int) (v6 : Int) (m : YS) : Option (Int) :=
  it (fun s : Int × Int => nb_Y_readAttribute_320 v1 v2 v3 v4 s.1 s.2 m) (v5, v6)
theorem fL_Y_readAttribute_320 {w y : Prop} {g : g_S} {n : NS} {m : YS} (hy : y) {xv1 : Int32} {v1 : Int} (ev1 : xv1 = Int32.ofInt v1) (rv1 : inR v1) {xv2 : Int32} {v2 : Int} (ev2 : xv2 = Int32.ofInt v2) (rv2 : inR v2) {xv3 : Int32} {v3 : Int} (ev3 : xv3 = Int32.ofInt v3) (rv3 : inR v3) {xv4 : Int32} {v4 : Int} (ev4 : xv4 = Int32.ofInt v4) (rv4 : inR v4) {xv5 : Int32} {v5 : Int} (ev5 : xv5 = Int32.ofInt v5) (rv5 : inR v5) {xv6 : Int32} {v6 : Int} (ev6 : xv6 = Int32.ofInt v6) (rv6 : inR v6) (hR : RC w y g n m) : Rf (fun a b => RI a b) (L_Y_readAttribute_320 1838 xv1 xv2 xv3 xv4 xv5 xv6 g) (NL_Y_readAttribute_320 v1 v2 v3 v4 v5 v6 m) := by
  subst ev1
  subst ev2
  subst ev3
  subst ev4
  subst ev5
  subst ev6
  unfold L_Y_readAttribute_320 NL_Y_readAttribute_320
  refine rf_it (I := (fun a b => RI a.1 b.1 ∧ RI a.2 b.2)) (fun s t h => ?_) ⟨⟨rfl, rv5⟩, ⟨rfl, rv6⟩⟩
  exact fb_Y_readAttribute_320 hy rfl rv1 rfl rv2 rfl rv3 rfl rv4 h.1.1 h.1.2 h.2.1 h.2.2 hR
theorem NL_Y_readAttribute_320_eq (v1 : Int) (v2 : Int) (v3 : Int) (v4 : Int) (v5 : Int) (v6 : Int) (m : YS) : NL_Y_readAttribute_320 v1 v2 v3 v4 v5 v6 m = itc (nb_Y_readAttribute_320 v1 v2 v3 v4 v5 v6 m) (fun s => NL_Y_readAttribute_320 v1 v2 v3 v4 s.1 s.2 m) := it_eq2 (fun s : Int × Int => nb_Y_readAttribute_320 v1 v2 v3 v4 s.1 s.2 m) (v5, v6)
noncomputable def nk_Y_readAttribute_62 (v1 : Int) (v2 : Int) (v3 : Int) (m : YS) : Option ((Int × Int × YS) ⊕ (Int × Int × YS)) :=
  if v2 < 8 then
    ix v3 2000 <|
    (N_Y_small (m 75 v3) m).bind fun z7 =>
    ix v2 8 <|
    st (yw m 87 v2 (Int.bmod z7 256)) fun m11 =>
    ck (v2 + 1) <|
    ck (v3 + 1) <|
    some (.inl (v2 + 1, v3 + 1, m11))
  else
    ck (v3 + 1) <|
    some (.inl (v2, v3 + 1, m))
theorem fk_Y_readAttribute_62 {w y : Prop} {g : g_S} {n : NS} {m : YS} (hy : y) {xv1 : Int32} {v1 : Int} (ev1 : xv1 = Int32.ofInt v1) (rv1 : inR v1) {xv2 : Int32} {v2 : Int} (ev2 : xv2 = Int32.ofInt v2) (rv2 : inR v2) {xv3 : Int32} {v3 : Int} (ev3 : xv3 = Int32.ofInt v3) (rv3 : inR v3) (hR : RC w y g n m) : Rf (RS (fun a b => RI a.1 b.1 ∧ RI a.2.1 b.2.1 ∧ RC w y a.2.2 n b.2.2) (fun a b => RI a.1 b.1 ∧ RI a.2.1 b.2.1 ∧ RC w y a.2.2 n b.2.2)) (k_Y_readAttribute_62 1838 xv1 xv2 xv3 g) (nk_Y_readAttribute_62 v1 v2 v3 m) := by
  subst ev1
  subst ev2
  subst ev3
  unfold k_Y_readAttribute_62 nk_Y_readAttribute_62
  refine rf_lt rfl (e_n 8) rv2 (show inR 8 by decide) ?_ ?_
  · refine y_Q hR hy ya87.1 (by decide) ?_
    refine y_Q hR hy ya75.1 (by decide) ?_
    refine y_aB hR hy ya75 yl75 rfl rv3 (fun h4 h5 => ?_)
    refine rf_bind (f_Y_small hy rfl (inB.r h5) hR) (fun a9 z7 h => ?_)
    obtain ⟨rfl, r8⟩ := h
    refine y_sB hR hy ya87 yl87 rfl rv2 (e_b rfl) b_b (fun g13 m11 hR12 => ?_)
    refine rf_ck (fun h14 => ?_)
    refine rf_ck (fun h15 => ?_)
    exact rf_ok (by exact ⟨⟨(e_add rfl (e_n 1)), h14⟩, ⟨(e_add rfl (e_n 1)), h15⟩, hR12⟩)
  · refine rf_ck (fun h16 => ?_)
    exact rf_ok (by exact ⟨⟨rfl, rv2⟩, ⟨(e_add rfl (e_n 1)), h16⟩, hR⟩)
noncomputable def nb_Y_readAttribute_4 (v1 : Int) (v2 : Int) (v3 : Int) (m : YS) : Option ((Int × Int × YS) ⊕ (Int × Int × YS)) :=
  if v3 < (m 76 0) then
    if v3 = v1 then
      nk_Y_readAttribute_62 v1 v2 v3 m
    else
      ix v3 2000 <|
      if (m 75 v3) = 61 then
        some (.inr (v2, v3, m))
      else
        ix v3 2000 <|
        (N_Y_isBlank (m 75 v3) m).bind fun z12 =>
        if z12 = 0 then
          ix v3 2000 <|
          if (m 75 v3) = 47 then
            some (.inr (v2, v3, m))
          else
            ix v3 2000 <|
            if (m 75 v3) = 62 then
              some (.inr (v2, v3, m))
            else
              nk_Y_readAttribute_62 v1 v2 v3 m
        else
          some (.inr (v2, v3, m))
  else
    some (.inr (v2, v3, m))
theorem fb_Y_readAttribute_4 {w y : Prop} {g : g_S} {n : NS} {m : YS} (hy : y) {xv1 : Int32} {v1 : Int} (ev1 : xv1 = Int32.ofInt v1) (rv1 : inR v1) {xv2 : Int32} {v2 : Int} (ev2 : xv2 = Int32.ofInt v2) (rv2 : inR v2) {xv3 : Int32} {v3 : Int} (ev3 : xv3 = Int32.ofInt v3) (rv3 : inR v3) (hR : RC w y g n m) : Rf (RS (fun a b => RI a.1 b.1 ∧ RI a.2.1 b.2.1 ∧ RC w y a.2.2 n b.2.2) (fun a b => RI a.1 b.1 ∧ RI a.2.1 b.2.1 ∧ RC w y a.2.2 n b.2.2)) (b_Y_readAttribute_4 1838 xv1 xv2 xv3 g) (nb_Y_readAttribute_4 v1 v2 v3 m) := by
  subst ev1
  subst ev2
  subst ev3
  unfold b_Y_readAttribute_4 nb_Y_readAttribute_4
  refine y_I hR hy yk76 yt76 (fun h1 => ?_)
  refine rf_lt rfl rfl rv3 h1 ?_ ?_
  · refine rf_eq rfl rfl rv3 rv1 ?_ ?_
    · exact fk_Y_readAttribute_62 hy rfl rv1 rfl rv2 rfl rv3 hR
    · refine y_Q hR hy ya75.1 (by decide) ?_
      refine y_aB hR hy ya75 yl75 rfl rv3 (fun h5 h6 => ?_)
      refine rf_eq rfl (e_n 61) (inB.r h6) (show inR 61 by decide) ?_ ?_
      · exact rf_ok (by exact ⟨⟨rfl, rv2⟩, ⟨rfl, rv3⟩, hR⟩)
      · refine y_Q hR hy ya75.1 (by decide) ?_
        refine y_aB hR hy ya75 yl75 rfl rv3 (fun h9 h10 => ?_)
        refine rf_bind (f_Y_isBlank hy rfl (inB.r h10) hR) (fun a14 z12 h => ?_)
        obtain ⟨rfl, r13⟩ := h
        refine rf_eq rfl (e_n 0) (inZ.r r13) (show inR 0 by decide) ?_ ?_
        · refine y_Q hR hy ya75.1 (by decide) ?_
          refine y_aB hR hy ya75 yl75 rfl rv3 (fun h17 h18 => ?_)
          refine rf_eq rfl (e_n 47) (inB.r h18) (show inR 47 by decide) ?_ ?_
          · exact rf_ok (by exact ⟨⟨rfl, rv2⟩, ⟨rfl, rv3⟩, hR⟩)
          · refine y_Q hR hy ya75.1 (by decide) ?_
            refine y_aB hR hy ya75 yl75 rfl rv3 (fun h21 h22 => ?_)
            refine rf_eq rfl (e_n 62) (inB.r h22) (show inR 62 by decide) ?_ ?_
            · exact rf_ok (by exact ⟨⟨rfl, rv2⟩, ⟨rfl, rv3⟩, hR⟩)
            · exact fk_Y_readAttribute_62 hy rfl rv1 rfl rv2 rfl rv3 hR
        · exact rf_ok (by exact ⟨⟨rfl, rv2⟩, ⟨rfl, rv3⟩, hR⟩)
  · exact rf_ok (by exact ⟨⟨rfl, rv2⟩, ⟨rfl, rv3⟩, hR⟩)
noncomputable def NL_Y_readAttribute_4 (v1 : Int) (v2 : Int) (v3 : Int) (m : YS) : Option (Int × Int × YS) :=
  it (fun s : Int × Int × YS => nb_Y_readAttribute_4 v1 s.1 s.2.1 s.2.2) (v2, v3, m)
theorem fL_Y_readAttribute_4 {w y : Prop} {g : g_S} {n : NS} {m : YS} (hy : y) {xv1 : Int32} {v1 : Int} (ev1 : xv1 = Int32.ofInt v1) (rv1 : inR v1) {xv2 : Int32} {v2 : Int} (ev2 : xv2 = Int32.ofInt v2) (rv2 : inR v2) {xv3 : Int32} {v3 : Int} (ev3 : xv3 = Int32.ofInt v3) (rv3 : inR v3) (hR : RC w y g n m) : Rf (fun a b => RI a.1 b.1 ∧ RI a.2.1 b.2.1 ∧ RC w y a.2.2 n b.2.2) (L_Y_readAttribute_4 1838 xv1 xv2 xv3 g) (NL_Y_readAttribute_4 v1 v2 v3 m) := by
  subst ev1
  subst ev2
  subst ev3
  unfold L_Y_readAttribute_4 NL_Y_readAttribute_4
  refine rf_it (I := (fun a b => RI a.1 b.1 ∧ RI a.2.1 b.2.1 ∧ RC w y a.2.2 n b.2.2)) (fun s t h => ?_) ⟨⟨rfl, rv2⟩, ⟨rfl, rv3⟩, hR⟩
  exact fb_Y_readAttribute_4 hy rfl rv1 h.1.1 h.1.2 h.2.1.1 h.2.1.2 h.2.2
theorem NL_Y_readAttribute_4_eq (v1 : Int) (v2 : Int) (v3 : Int) (m : YS) : NL_Y_readAttribute_4 v1 v2 v3 m = itc (nb_Y_readAttribute_4 v1 v2 v3 m) (fun s => NL_Y_readAttribute_4 v1 s.1 s.2.1 s.2.2) := it_eq2 (fun s : Int × Int × YS => nb_Y_readAttribute_4 v1 s.1 s.2.1 s.2.2) (v2, v3, m)
noncomputable def nk_Y_readAttribute_392 (v1 : Int) (v3 : Int) (m : YS) : Option (Int × YS) :=
  ix (m 85 0) 2000 <|
  st (yw m 86 (m 85 0) v1) fun m4 =>
  ck ((m4 85 0) + 1) <|
  st (yw m4 85 0 ((m4 85 0) + 1)) fun m10 =>
  some (v3, m10)
theorem fk_Y_readAttribute_392 {w y : Prop} {g : g_S} {n : NS} {m : YS} (hy : y) {xv1 : Int32} {v1 : Int} (ev1 : xv1 = Int32.ofInt v1) (rv1 : inR v1) {xv3 : Int32} {v3 : Int} (ev3 : xv3 = Int32.ofInt v3) (rv3 : inR v3) (hR : RC w y g n m) : Rf (fun a b => RI a.1 b.1 ∧ RC w y a.2 n b.2) (k_Y_readAttribute_392 1838 xv1 xv3 g) (nk_Y_readAttribute_392 v1 v3 m) := by
  subst ev1
  subst ev3
  unfold k_Y_readAttribute_392 nk_Y_readAttribute_392
  refine y_Q hR hy ya86.1 (by decide) ?_
  refine y_I hR hy yk85 yt85 (fun h2 => ?_)
  refine y_sI hR hy ya86 yl86 rfl h2 rfl rv1 (fun g6 m4 hR5 => ?_)
  refine y_I hR5 hy yk85 yt85 (fun h7 => ?_)
  refine rf_ck (fun h8 => ?_)
  refine y_pI hR5 hy yk85 ⟨yt85, yz85⟩ (e_add rfl (e_n 1)) h8 (fun g12 m10 hR11 => ?_)
  exact rf_ok (by exact ⟨⟨rfl, rv3⟩, hR11⟩)
noncomputable def nk_Y_readAttribute_314 (v1 : Int) (v2 : Int) (v3 : Int) (v4 : Int) (m : YS) : Option (Int × YS) :=
  (NL_Y_readAttribute_320 v1 v2 v3 v4 0 0 m).bind <| fun z1 =>
  if z1 = 0 then
    if (m 80 0) = 4 then
      nk_Y_readAttribute_392 v1 v3 m
    else
      ix (m 80 0) 4 <|
      st (yw m 82 (m 80 0) v2) fun m10 =>
      ix (m10 80 0) 4 <|
      st (yw m10 84 (m10 80 0) v4) fun m16 =>
      (NL_Y_readAttribute_438 v2 v3 v4 0 m16).bind <| fun m19 =>
      (NL_Y_readAttribute_475 v3 v4 0 m19).bind <| fun m22 =>
      ck ((m22 80 0) + 1) <|
      st (yw m22 80 0 ((m22 80 0) + 1)) fun m28 =>
      some (v3, m28)
  else
    nk_Y_readAttribute_392 v1 v3 m
theorem fk_Y_readAttribute_314 {w y : Prop} {g : g_S} {n : NS} {m : YS} (hy : y) {xv1 : Int32} {v1 : Int} (ev1 : xv1 = Int32.ofInt v1) (rv1 : inR v1) {xv2 : Int32} {v2 : Int} (ev2 : xv2 = Int32.ofInt v2) (rv2 : inR v2) {xv3 : Int32} {v3 : Int} (ev3 : xv3 = Int32.ofInt v3) (rv3 : inR v3) {xv4 : Int32} {v4 : Int} (ev4 : xv4 = Int32.ofInt v4) (rv4 : inR v4) (hR : RC w y g n m) : Rf (fun a b => RI a.1 b.1 ∧ RC w y a.2 n b.2) (k_Y_readAttribute_314 1838 xv1 xv2 xv3 xv4 g) (nk_Y_readAttribute_314 v1 v2 v3 v4 m) := by
  subst ev1
  subst ev2
  subst ev3
  subst ev4
  unfold k_Y_readAttribute_314 nk_Y_readAttribute_314
  refine rf_bind (fL_Y_readAttribute_320 hy rfl rv1 rfl rv2 rfl rv3 rfl rv4 (e_n 0) (show inR 0 by decide) (e_n 0) (show inR 0 by decide) hR) (fun a2 z1 h => ?_)
  obtain ⟨rfl, r3⟩ := (show RI a2 z1 from h)
  refine rf_eq rfl (e_n 0) r3 (show inR 0 by decide) ?_ ?_
  · refine y_I hR hy yk80 yt80 (fun h5 => ?_)
    refine rf_eq rfl (e_n 4) h5 (show inR 4 by decide) ?_ ?_
    · exact fk_Y_readAttribute_392 hy rfl rv1 rfl rv3 hR
    · refine y_Q hR hy ya82.1 (by decide) ?_
      refine y_I hR hy yk80 yt80 (fun h8 => ?_)
      refine y_sI hR hy ya82 yl82 rfl h8 rfl rv2 (fun g12 m10 hR11 => ?_)
      refine y_Q hR11 hy ya84.1 (by decide) ?_
      refine y_I hR11 hy yk80 yt80 (fun h14 => ?_)
      refine y_sI hR11 hy ya84 yl84 rfl h14 rfl rv4 (fun g18 m16 hR17 => ?_)
      refine rf_bind (fL_Y_readAttribute_438 hy rfl rv2 rfl rv3 rfl rv4 (e_n 0) (show inR 0 by decide) hR17) (fun a20 m19 h => ?_)
      have hR21 : RC w y a20 n m19 := h
      refine rf_bind (fL_Y_readAttribute_475 hy rfl rv3 rfl rv4 (e_n 0) (show inR 0 by decide) hR21) (fun a23 m22 h => ?_)
      have hR24 : RC w y a23 n m22 := h
      refine y_I hR24 hy yk80 yt80 (fun h25 => ?_)
      refine rf_ck (fun h26 => ?_)
      refine y_pI hR24 hy yk80 ⟨yt80, yz80⟩ (e_add rfl (e_n 1)) h26 (fun g30 m28 hR29 => ?_)
      exact rf_ok (by exact ⟨⟨rfl, rv3⟩, hR29⟩)
  · exact fk_Y_readAttribute_392 hy rfl rv1 rfl rv3 hR
noncomputable def nk_Y_readAttribute_304 (v1 : Int) (v2 : Int) (v3 : Int) (v4 : Int) (v5 : Int) (m : YS) : Option (Int × YS) :=
  if 0 < v5 then
    nk_Y_readAttribute_314 v1 v2 (m 76 0) v4 m
  else
    nk_Y_readAttribute_314 v1 v2 v3 v4 m
theorem fk_Y_readAttribute_304 {w y : Prop} {g : g_S} {n : NS} {m : YS} (hy : y) {xv1 : Int32} {v1 : Int} (ev1 : xv1 = Int32.ofInt v1) (rv1 : inR v1) {xv2 : Int32} {v2 : Int} (ev2 : xv2 = Int32.ofInt v2) (rv2 : inR v2) {xv3 : Int32} {v3 : Int} (ev3 : xv3 = Int32.ofInt v3) (rv3 : inR v3) {xv4 : Int32} {v4 : Int} (ev4 : xv4 = Int32.ofInt v4) (rv4 : inR v4) {xv5 : Int32} {v5 : Int} (ev5 : xv5 = Int32.ofInt v5) (rv5 : inR v5) (hR : RC w y g n m) : Rf (fun a b => RI a.1 b.1 ∧ RC w y a.2 n b.2) (k_Y_readAttribute_304 1838 xv1 xv2 xv3 xv4 xv5 g) (nk_Y_readAttribute_304 v1 v2 v3 v4 v5 m) := by
  subst ev1
  subst ev2
  subst ev3
  subst ev4
  subst ev5
  unfold k_Y_readAttribute_304 nk_Y_readAttribute_304
  refine rf_lt (e_n 0) rfl (show inR 0 by decide) rv5 ?_ ?_
  · refine y_I hR hy yk76 yt76 (fun h2 => ?_)
    exact fk_Y_readAttribute_314 hy rfl rv1 rfl rv2 rfl h2 rfl rv4 hR
  · exact fk_Y_readAttribute_314 hy rfl rv1 rfl rv2 rfl rv3 rfl rv4 hR
noncomputable def nk_Y_readAttribute_172 (v1 : Int) (v2 : Int) (v4 : Int) (v5 : Int) (w0 : Int) (m : YS) : Option (Int × YS) :=
  (NL_Y_readAttribute_176 v1 v2 w0 v4 v5 w0 m).bind <| fun z1 =>
  (NL_Y_readAttribute_236 v1 v2 v5 z1 w0 v4 m).bind <| u3 fun z4 z5 m6 =>
  if 0 < v5 then
    if z4 < (m6 76 0) then
      ck (z4 + 1) <|
      nk_Y_readAttribute_314 v1 v2 (z4 + 1) z5 m6
    else
      nk_Y_readAttribute_304 v1 v2 z4 z5 v5 m6
  else
    nk_Y_readAttribute_304 v1 v2 z4 z5 v5 m6
theorem fk_Y_readAttribute_172 {w y : Prop} {g : g_S} {n : NS} {m : YS} (hy : y) {xv1 : Int32} {v1 : Int} (ev1 : xv1 = Int32.ofInt v1) (rv1 : inR v1) {xv2 : Int32} {v2 : Int} (ev2 : xv2 = Int32.ofInt v2) (rv2 : inR v2) {xv4 : Int32} {v4 : Int} (ev4 : xv4 = Int32.ofInt v4) (rv4 : inR v4) {xv5 : Int32} {v5 : Int} (ev5 : xv5 = Int32.ofInt v5) (rv5 : inR v5) {xw0 : Int32} {w0 : Int} (ew0 : xw0 = Int32.ofInt w0) (rw0 : inR w0) (hR : RC w y g n m) : Rf (fun a b => RI a.1 b.1 ∧ RC w y a.2 n b.2) (k_Y_readAttribute_172 1838 xv1 xv2 xv4 xv5 xw0 g) (nk_Y_readAttribute_172 v1 v2 v4 v5 w0 m) := by
  subst ev1
  subst ev2
  subst ev4
  subst ev5
  subst ew0
  unfold k_Y_readAttribute_172 nk_Y_readAttribute_172
  refine rf_bind (fL_Y_readAttribute_176 hy rfl rv1 rfl rv2 rfl rw0 rfl rv4 rfl rv5 rfl rw0 hR) (fun a2 z1 h => ?_)
  obtain ⟨rfl, r3⟩ := (show RI a2 z1 from h)
  refine rf_bind (fL_Y_readAttribute_236 hy rfl rv1 rfl rv2 rfl rv5 rfl r3 rfl rw0 rfl rv4 hR) (fun a b h => ?_)
  obtain ⟨a7, a8, a9⟩ := a
  obtain ⟨z4, z5, m6⟩ := b
  refine rf_u3 ?_
  obtain ⟨rfl, r11⟩ := (show RI a7 z4 from h.1)
  obtain ⟨rfl, r12⟩ := (show RI a8 z5 from h.2.1)
  have hR10 : RC w y a9 n m6 := h.2.2
  refine rf_lt (e_n 0) rfl (show inR 0 by decide) rv5 ?_ ?_
  · refine y_I hR10 hy yk76 yt76 (fun h14 => ?_)
    refine rf_lt rfl rfl r11 h14 ?_ ?_
    · refine rf_ck (fun h16 => ?_)
      exact fk_Y_readAttribute_314 hy rfl rv1 rfl rv2 (e_add rfl (e_n 1)) h16 rfl r12 hR10
    · exact fk_Y_readAttribute_304 hy rfl rv1 rfl rv2 rfl r11 rfl r12 rfl rv5 hR10
  · exact fk_Y_readAttribute_304 hy rfl rv1 rfl rv2 rfl r11 rfl r12 rfl rv5 hR10
noncomputable def nk_Y_readAttribute_158 (v1 : Int) (v2 : Int) (v3 : Int) (v4 : Int) (w0 : Int) (m : YS) : Option (Int × YS) :=
  if 0 < w0 then
    ck (v3 + 1) <|
    nk_Y_readAttribute_172 v1 v2 v4 w0 (v3 + 1) m
  else
    nk_Y_readAttribute_172 v1 v2 v4 w0 v3 m
theorem fk_Y_readAttribute_158 {w y : Prop} {g : g_S} {n : NS} {m : YS} (hy : y) {xv1 : Int32} {v1 : Int} (ev1 : xv1 = Int32.ofInt v1) (rv1 : inR v1) {xv2 : Int32} {v2 : Int} (ev2 : xv2 = Int32.ofInt v2) (rv2 : inR v2) {xv3 : Int32} {v3 : Int} (ev3 : xv3 = Int32.ofInt v3) (rv3 : inR v3) {xv4 : Int32} {v4 : Int} (ev4 : xv4 = Int32.ofInt v4) (rv4 : inR v4) {xw0 : Int32} {w0 : Int} (ew0 : xw0 = Int32.ofInt w0) (rw0 : inR w0) (hR : RC w y g n m) : Rf (fun a b => RI a.1 b.1 ∧ RC w y a.2 n b.2) (k_Y_readAttribute_158 1838 xv1 xv2 xv3 xv4 xw0 g) (nk_Y_readAttribute_158 v1 v2 v3 v4 w0 m) := by
  subst ev1
  subst ev2
  subst ev3
  subst ev4
  subst ew0
  unfold k_Y_readAttribute_158 nk_Y_readAttribute_158
  refine rf_lt (e_n 0) rfl (show inR 0 by decide) rw0 ?_ ?_
  · refine rf_ck (fun h2 => ?_)
    exact fk_Y_readAttribute_172 hy rfl rv1 rfl rv2 rfl rv4 rfl rw0 (e_add rfl (e_n 1)) h2 hR
  · exact fk_Y_readAttribute_172 hy rfl rv1 rfl rv2 rfl rv4 rfl rw0 rfl rv3 hR
noncomputable def nk_Y_readAttribute_157 (v1 : Int) (v2 : Int) (v3 : Int) (v4 : Int) (m : YS) : Option (Int × YS) :=
  nk_Y_readAttribute_158 v1 v2 v3 v4 0 m
theorem fk_Y_readAttribute_157 {w y : Prop} {g : g_S} {n : NS} {m : YS} (hy : y) {xv1 : Int32} {v1 : Int} (ev1 : xv1 = Int32.ofInt v1) (rv1 : inR v1) {xv2 : Int32} {v2 : Int} (ev2 : xv2 = Int32.ofInt v2) (rv2 : inR v2) {xv3 : Int32} {v3 : Int} (ev3 : xv3 = Int32.ofInt v3) (rv3 : inR v3) {xv4 : Int32} {v4 : Int} (ev4 : xv4 = Int32.ofInt v4) (rv4 : inR v4) (hR : RC w y g n m) : Rf (fun a b => RI a.1 b.1 ∧ RC w y a.2 n b.2) (k_Y_readAttribute_157 1838 xv1 xv2 xv3 xv4 g) (nk_Y_readAttribute_157 v1 v2 v3 v4 m) := by
  subst ev1
  subst ev2
  subst ev3
  subst ev4
  unfold k_Y_readAttribute_157 nk_Y_readAttribute_157
  exact fk_Y_readAttribute_158 hy rfl rv1 rfl rv2 rfl rv3 rfl rv4 (e_n 0) (show inR 0 by decide) hR
noncomputable def nk_Y_readAttribute_148 (v1 : Int) (v2 : Int) (v3 : Int) (v4 : Int) (m : YS) : Option (Int × YS) :=
  ix v3 2000 <|
  nk_Y_readAttribute_158 v1 v2 v3 v4 (m 75 v3) m
theorem fk_Y_readAttribute_148 {w y : Prop} {g : g_S} {n : NS} {m : YS} (hy : y) {xv1 : Int32} {v1 : Int} (ev1 : xv1 = Int32.ofInt v1) (rv1 : inR v1) {xv2 : Int32} {v2 : Int} (ev2 : xv2 = Int32.ofInt v2) (rv2 : inR v2) {xv3 : Int32} {v3 : Int} (ev3 : xv3 = Int32.ofInt v3) (rv3 : inR v3) {xv4 : Int32} {v4 : Int} (ev4 : xv4 = Int32.ofInt v4) (rv4 : inR v4) (hR : RC w y g n m) : Rf (fun a b => RI a.1 b.1 ∧ RC w y a.2 n b.2) (k_Y_readAttribute_148 1838 xv1 xv2 xv3 xv4 g) (nk_Y_readAttribute_148 v1 v2 v3 v4 m) := by
  subst ev1
  subst ev2
  subst ev3
  subst ev4
  unfold k_Y_readAttribute_148 nk_Y_readAttribute_148
  refine y_Q hR hy ya75.1 (by decide) ?_
  refine y_aB hR hy ya75 yl75 rfl rv3 (fun h2 h3 => ?_)
  exact fk_Y_readAttribute_158 hy rfl rv1 rfl rv2 rfl rv3 rfl rv4 rfl (inB.r h3) hR
noncomputable def nk_Y_readAttribute_93 (v1 : Int) (v2 : Int) (v3 : Int) (m : YS) : Option (Int × YS) :=
  if v3 < (m 76 0) then
    ix v3 2000 <|
    if (m 75 v3) = 61 then
      ck (v3 + 1) <|
      if (v3 + 1) < (m 76 0) then
        ix (v3 + 1) 2000 <|
        if (m 75 (v3 + 1)) = 34 then
          nk_Y_readAttribute_148 v1 v2 (v3 + 1) 0 m
        else
          ix (v3 + 1) 2000 <|
          if (m 75 (v3 + 1)) = 39 then
            nk_Y_readAttribute_148 v1 v2 (v3 + 1) 0 m
          else
            nk_Y_readAttribute_157 v1 v2 (v3 + 1) 0 m
      else
        nk_Y_readAttribute_157 v1 v2 (v3 + 1) 0 m
    else
      nk_Y_readAttribute_314 v1 v2 v3 0 m
  else
    nk_Y_readAttribute_314 v1 v2 v3 0 m
theorem fk_Y_readAttribute_93 {w y : Prop} {g : g_S} {n : NS} {m : YS} (hy : y) {xv1 : Int32} {v1 : Int} (ev1 : xv1 = Int32.ofInt v1) (rv1 : inR v1) {xv2 : Int32} {v2 : Int} (ev2 : xv2 = Int32.ofInt v2) (rv2 : inR v2) {xv3 : Int32} {v3 : Int} (ev3 : xv3 = Int32.ofInt v3) (rv3 : inR v3) (hR : RC w y g n m) : Rf (fun a b => RI a.1 b.1 ∧ RC w y a.2 n b.2) (k_Y_readAttribute_93 1838 xv1 xv2 xv3 g) (nk_Y_readAttribute_93 v1 v2 v3 m) := by
  subst ev1
  subst ev2
  subst ev3
  unfold k_Y_readAttribute_93 nk_Y_readAttribute_93
  refine y_I hR hy yk76 yt76 (fun h1 => ?_)
  refine rf_lt rfl rfl rv3 h1 ?_ ?_
  · refine y_Q hR hy ya75.1 (by decide) ?_
    refine y_aB hR hy ya75 yl75 rfl rv3 (fun h4 h5 => ?_)
    refine rf_eq rfl (e_n 61) (inB.r h5) (show inR 61 by decide) ?_ ?_
    · refine rf_ck (fun h7 => ?_)
      refine y_I hR hy yk76 yt76 (fun h8 => ?_)
      refine rf_lt (e_add rfl (e_n 1)) rfl h7 h8 ?_ ?_
      · refine y_Q hR hy ya75.1 (by decide) ?_
        refine y_aB hR hy ya75 yl75 (e_add rfl (e_n 1)) h7 (fun h11 h12 => ?_)
        refine rf_eq rfl (e_n 34) (inB.r h12) (show inR 34 by decide) ?_ ?_
        · exact fk_Y_readAttribute_148 hy rfl rv1 rfl rv2 (e_add rfl (e_n 1)) h7 (e_n 0) (show inR 0 by decide) hR
        · refine y_Q hR hy ya75.1 (by decide) ?_
          refine y_aB hR hy ya75 yl75 (e_add rfl (e_n 1)) h7 (fun h15 h16 => ?_)
          refine rf_eq rfl (e_n 39) (inB.r h16) (show inR 39 by decide) ?_ ?_
          · exact fk_Y_readAttribute_148 hy rfl rv1 rfl rv2 (e_add rfl (e_n 1)) h7 (e_n 0) (show inR 0 by decide) hR
          · exact fk_Y_readAttribute_157 hy rfl rv1 rfl rv2 (e_add rfl (e_n 1)) h7 (e_n 0) (show inR 0 by decide) hR
      · exact fk_Y_readAttribute_157 hy rfl rv1 rfl rv2 (e_add rfl (e_n 1)) h7 (e_n 0) (show inR 0 by decide) hR
    · exact fk_Y_readAttribute_314 hy rfl rv1 rfl rv2 rfl rv3 (e_n 0) (show inR 0 by decide) hR
  · exact fk_Y_readAttribute_314 hy rfl rv1 rfl rv2 rfl rv3 (e_n 0) (show inR 0 by decide) hR
noncomputable def N_Y_readAttribute (v1 : Int) (m : YS) : Option (Int × YS) :=
  (NL_Y_readAttribute_4 v1 0 v1 m).bind <| u3 fun z1 z2 m3 =>
  nk_Y_readAttribute_93 v1 z1 z2 m3
theorem f_Y_readAttribute {w y : Prop} {g : g_S} {n : NS} {m : YS} (hy : y) {xv1 : Int32} {v1 : Int} (ev1 : xv1 = Int32.ofInt v1) (rv1 : inR v1) (hR : RC w y g n m) : Rf (fun a b => RI a.1 b.1 ∧ RC w y a.2 n b.2) (M_Y_readAttribute 1838 xv1 g) (N_Y_readAttribute v1 m) := by
  subst ev1
  unfold M_Y_readAttribute N_Y_readAttribute
  refine rf_bind (fL_Y_readAttribute_4 hy rfl rv1 (e_n 0) (show inR 0 by decide) rfl rv1 hR) (fun a b h => ?_)
  obtain ⟨a4, a5, a6⟩ := a
  obtain ⟨z1, z2, m3⟩ := b
  refine rf_u3 ?_
  obtain ⟨rfl, r8⟩ := (show RI a4 z1 from h.1)
  obtain ⟨rfl, r9⟩ := (show RI a5 z2 from h.2.1)
  have hR7 : RC w y a6 n m3 := h.2.2
  exact fk_Y_readAttribute_93 hy rfl rv1 rfl r8 rfl r9 hR7
noncomputable def nb_Y_lengthOf_4 (v2 : Int) (v3 : Int) (m : YS) : Option ((Int × Int) ⊕ (Int)) :=
  if 0 < v3 then
    ck (v2 + 1) <|
    some (.inl (v2 + 1, v3 / 32))
  else
    some (.inr v2)
theorem fb_Y_lengthOf_4 {w y : Prop} {g : g_S} {n : NS} {m : YS} (hy : y) {xv2 : Int32} {v2 : Int} (ev2 : xv2 = Int32.ofInt v2) (rv2 : inR v2) {xv3 : Int64} {v3 : Int} (ev3 : xv3 = Int64.ofInt v3) (rv3 : inL v3) (hR : RC w y g n m) : Rf (RS (fun a b => RI a.1 b.1 ∧ RJ a.2 b.2) (fun a b => RI a b)) (b_Y_lengthOf_4 xv2 xv3 g) (nb_Y_lengthOf_4 v2 v3 m) := by
  subst ev2
  subst ev3
  unfold b_Y_lengthOf_4 nb_Y_lengthOf_4
  refine rf_lgt rfl (f_n 0) rv3 (show inL 0 by decide) ?_ ?_
  · refine rf_ck (fun h2 => ?_)
    exact rf_ok (by exact ⟨⟨(e_add rfl (e_n 1)), h2⟩, ⟨(f_shr5 rfl rv3), (q32 rv3)⟩⟩)
  · exact rf_ok (by exact ⟨rfl, rv2⟩)
noncomputable def NL_Y_lengthOf_4 (v2 : Int) (v3 : Int) (m : YS) : Option (Int) :=
  it (fun s : Int × Int => nb_Y_lengthOf_4 s.1 s.2 m) (v2, v3)
theorem fL_Y_lengthOf_4 {w y : Prop} {g : g_S} {n : NS} {m : YS} (hy : y) {xv2 : Int32} {v2 : Int} (ev2 : xv2 = Int32.ofInt v2) (rv2 : inR v2) {xv3 : Int64} {v3 : Int} (ev3 : xv3 = Int64.ofInt v3) (rv3 : inL v3) (hR : RC w y g n m) : Rf (fun a b => RI a b) (L_Y_lengthOf_4 xv2 xv3 g) (NL_Y_lengthOf_4 v2 v3 m) := by
  subst ev2
  subst ev3
  unfold L_Y_lengthOf_4 NL_Y_lengthOf_4
  refine rf_it (I := (fun a b => RI a.1 b.1 ∧ RJ a.2 b.2)) (fun s t h => ?_) ⟨⟨rfl, rv2⟩, ⟨rfl, rv3⟩⟩
  exact fb_Y_lengthOf_4 hy h.1.1 h.1.2 h.2.1 h.2.2 hR
theorem NL_Y_lengthOf_4_eq (v2 : Int) (v3 : Int) (m : YS) : NL_Y_lengthOf_4 v2 v3 m = itc (nb_Y_lengthOf_4 v2 v3 m) (fun s => NL_Y_lengthOf_4 s.1 s.2 m) := it_eq2 (fun s : Int × Int => nb_Y_lengthOf_4 s.1 s.2 m) (v2, v3)
noncomputable def N_Y_lengthOf (v0 : Int) (m : YS) : Option (Int) :=
  (NL_Y_lengthOf_4 0 v0 m).bind <| fun z1 =>
  some z1
theorem f_Y_lengthOf {w y : Prop} {g : g_S} {n : NS} {m : YS} (hy : y) {xv0 : Int64} {v0 : Int} (ev0 : xv0 = Int64.ofInt v0) (rv0 : inL v0) (hR : RC w y g n m) : Rf (fun a b => RI a b) (M_Y_lengthOf xv0 g) (N_Y_lengthOf v0 m) := by
  subst ev0
  unfold M_Y_lengthOf N_Y_lengthOf
  refine rf_bind (fL_Y_lengthOf_4 hy (e_n 0) (show inR 0 by decide) rfl rv0 hR) (fun a2 z1 h => ?_)
  obtain ⟨rfl, r3⟩ := (show RI a2 z1 from h)
  exact rf_ok (by exact ⟨rfl, r3⟩)
noncomputable def nb_Y_tagOf_2 (v0 : Nat) (v1 : Int) (v2 : Int) (v3 : Int) (m : YS) : Option ((Int) ⊕ ((Int) ⊕ (Int) ⊕ (Unit))) :=
  if v3 < 16 then
    (N_Y_tagWord v3 m).bind fun z3 =>
    if v3 = 2 then
      if v2 = 2 then
        ix v1 (yLn v0 : Int) <|
        if (m v0 v1) = 104 then
          ck (v1 + 1) <|
          ix (v1 + 1) (yLn v0 : Int) <|
          if (m v0 (v1 + 1)) = 49 then
            some (.inr (.inl v3))
          else
            ck (v3 + 1) <|
            some (.inl (v3 + 1))
        else
          ck (v3 + 1) <|
          some (.inl (v3 + 1))
      else
        ck (v3 + 1) <|
        some (.inl (v3 + 1))
    else
      (N_Y_lengthOf z3 m).bind fun z19 =>
      if z19 = v2 then
        ck (v1 + v2) <|
        (N_Y_isWord v0 v1 (v1 + v2) z3 m).bind fun z25 =>
        if z25 = 0 then
          ck (v3 + 1) <|
          some (.inl (v3 + 1))
        else
          some (.inr (.inr (.inl v3)))
      else
        ck (v3 + 1) <|
        some (.inl (v3 + 1))
  else
    some (.inr (.inr (.inr ())))
theorem fb_Y_tagOf_2 {w y : Prop} {g : g_S} {n : NS} {m : YS} (hy : y) {xv0 : Nat} {v0 : Nat} (ev0 : xv0 = yAd v0) (rv0 : v0 < 186 ∧ yT v0 = 1) {xv1 : Int32} {v1 : Int} (ev1 : xv1 = Int32.ofInt v1) (rv1 : inR v1) {xv2 : Int32} {v2 : Int} (ev2 : xv2 = Int32.ofInt v2) (rv2 : inR v2) {xv3 : Int32} {v3 : Int} (ev3 : xv3 = Int32.ofInt v3) (rv3 : inR v3) (hR : RC w y g n m) : Rf (RS (fun a b => RI a b) (RS (fun a b => RI a b) (RS (fun a b => RI a b) (fun _ _ => True)))) (b_Y_tagOf_2 xv0 xv1 xv2 xv3 g) (nb_Y_tagOf_2 v0 v1 v2 v3 m) := by
  subst ev0
  subst ev1
  subst ev2
  subst ev3
  unfold b_Y_tagOf_2 nb_Y_tagOf_2
  refine rf_lt rfl (e_n 16) rv3 (show inR 16 by decide) ?_ ?_
  · refine rf_bind (f_Y_tagWord hy rfl rv3 hR) (fun a5 z3 h => ?_)
    obtain ⟨rfl, r4⟩ := h
    refine rf_eq rfl (e_n 2) rv3 (show inR 2 by decide) ?_ ?_
    · refine rf_eq rfl (e_n 2) rv2 (show inR 2 by decide) ?_ ?_
      · refine y_aB hR hy rv0 rfl rfl rv1 (fun h8 h9 => ?_)
        refine rf_eq rfl (e_n 104) (inB.r h9) (show inR 104 by decide) ?_ ?_
        · refine rf_ck (fun h11 => ?_)
          refine y_aB hR hy rv0 rfl (e_add rfl (e_n 1)) h11 (fun h12 h13 => ?_)
          refine rf_eq rfl (e_n 49) (inB.r h13) (show inR 49 by decide) ?_ ?_
          · exact rf_ok (by exact ⟨rfl, rv3⟩)
          · refine rf_ck (fun h15 => ?_)
            exact rf_ok (by exact ⟨(e_add rfl (e_n 1)), h15⟩)
        · refine rf_ck (fun h16 => ?_)
          exact rf_ok (by exact ⟨(e_add rfl (e_n 1)), h16⟩)
      · refine rf_ck (fun h17 => ?_)
        exact rf_ok (by exact ⟨(e_add rfl (e_n 1)), h17⟩)
    · refine rf_bind (f_Y_lengthOf hy rfl r4 hR) (fun a21 z19 h => ?_)
      obtain ⟨rfl, r20⟩ := h
      refine rf_eq rfl rfl r20 rv2 ?_ ?_
      · refine rf_ck (fun h23 => ?_)
        refine rf_bind (f_Y_isWord hy rfl rv0 rfl rv1 (e_add rfl rfl) h23 rfl r4 hR) (fun a27 z25 h => ?_)
        obtain ⟨rfl, r26⟩ := h
        refine rf_eq rfl (e_n 0) (inZ.r r26) (show inR 0 by decide) ?_ ?_
        · refine rf_ck (fun h29 => ?_)
          exact rf_ok (by exact ⟨(e_add rfl (e_n 1)), h29⟩)
        · exact rf_ok (by exact ⟨rfl, rv3⟩)
      · refine rf_ck (fun h30 => ?_)
        exact rf_ok (by exact ⟨(e_add rfl (e_n 1)), h30⟩)
  · exact rf_ok (by exact trivial)
noncomputable def NL_Y_tagOf_2 (v0 : Nat) (v1 : Int) (v2 : Int) (v3 : Int) (m : YS) : Option ((Int) ⊕ (Int) ⊕ (Unit)) :=
  it (fun s : Int => nb_Y_tagOf_2 v0 v1 v2 s m) (v3)
theorem fL_Y_tagOf_2 {w y : Prop} {g : g_S} {n : NS} {m : YS} (hy : y) {xv0 : Nat} {v0 : Nat} (ev0 : xv0 = yAd v0) (rv0 : v0 < 186 ∧ yT v0 = 1) {xv1 : Int32} {v1 : Int} (ev1 : xv1 = Int32.ofInt v1) (rv1 : inR v1) {xv2 : Int32} {v2 : Int} (ev2 : xv2 = Int32.ofInt v2) (rv2 : inR v2) {xv3 : Int32} {v3 : Int} (ev3 : xv3 = Int32.ofInt v3) (rv3 : inR v3) (hR : RC w y g n m) : Rf (RS (fun a b => RI a b) (RS (fun a b => RI a b) (fun _ _ => True))) (L_Y_tagOf_2 xv0 xv1 xv2 xv3 g) (NL_Y_tagOf_2 v0 v1 v2 v3 m) := by
  subst ev0
  subst ev1
  subst ev2
  subst ev3
  unfold L_Y_tagOf_2 NL_Y_tagOf_2
  refine rf_it (I := (fun a b => RI a b)) (fun s t h => ?_) ⟨rfl, rv3⟩
  exact fb_Y_tagOf_2 hy rfl rv0 rfl rv1 rfl rv2 h.1 h.2 hR
theorem NL_Y_tagOf_2_eq (v0 : Nat) (v1 : Int) (v2 : Int) (v3 : Int) (m : YS) : NL_Y_tagOf_2 v0 v1 v2 v3 m = itc (nb_Y_tagOf_2 v0 v1 v2 v3 m) (fun s => NL_Y_tagOf_2 v0 v1 v2 s m) := it_eq2 (fun s : Int => nb_Y_tagOf_2 v0 v1 v2 s m) (v3)
noncomputable def N_Y_tagOf (v0 : Nat) (v1 : Int) (v2 : Int) (m : YS) : Option (Int) :=
  (NL_Y_tagOf_2 v0 v1 v2 0 m).bind <|
    us (fun z1 =>
    some z1)
    (us (fun z5 =>
    some z5)
    (fun _ =>
    some 16))
theorem f_Y_tagOf {w y : Prop} {g : g_S} {n : NS} {m : YS} (hy : y) {xv0 : Nat} {v0 : Nat} (ev0 : xv0 = yAd v0) (rv0 : v0 < 186 ∧ yT v0 = 1) {xv1 : Int32} {v1 : Int} (ev1 : xv1 = Int32.ofInt v1) (rv1 : inR v1) {xv2 : Int32} {v2 : Int} (ev2 : xv2 = Int32.ofInt v2) (rv2 : inR v2) (hR : RC w y g n m) : Rf (fun a b => RI a b) (M_Y_tagOf xv0 xv1 xv2 g) (N_Y_tagOf v0 v1 v2 m) := by
  subst ev0
  subst ev1
  subst ev2
  unfold M_Y_tagOf N_Y_tagOf
  refine rf_bind (fL_Y_tagOf_2 hy rfl rv0 rfl rv1 rfl rv2 (e_n 0) (show inR 0 by decide) hR) (fun a b h => rf_us h (fun a2 z1 h => ?_) (fun a b h => rf_us h (fun a6 z5 h => ?_) (fun a b h => ?_)))
  · obtain ⟨rfl, r3⟩ := (show RI a2 z1 from h)
    exact rf_ok (by exact ⟨rfl, r3⟩)
  · obtain ⟨rfl, r7⟩ := (show RI a6 z5 from h)
    exact rf_ok (by exact ⟨rfl, r7⟩)
  · exact rf_ok (by exact ⟨(e_n 16), (show inR 16 by decide)⟩)
noncomputable def nb_Y_closeTo_0 (v1 : Int) (v2 : Int) (v3 : Int) (m : YS) : Option ((YS) ⊕ (YS)) :=
  if v1 < (m 74 0) then
    ck ((m 74 0) - 1) <|
    st (yw m 74 0 ((m 74 0) - 1)) fun m6 =>
    ix (m6 74 0) 22 <|
    if (m6 73 (m6 74 0)) = v2 then
      some (.inl m6)
    else
      if (m6 73 (m6 74 0)) = v3 then
        some (.inl m6)
      else
        ix (m6 73 (m6 74 0)) 120 <|
        if (m6 46 (m6 73 (m6 74 0))) = 1 then
          some (.inl m6)
        else
          ix (m6 73 (m6 74 0)) 120 <|
          if (m6 46 (m6 73 (m6 74 0))) = 4 then
            some (.inl m6)
          else
            ix (m6 73 (m6 74 0)) 120 <|
            (N_Y_tellFault 4 (m6 67 (m6 73 (m6 74 0))) m6).bind fun m27 =>
            some (.inl m27)
  else
    some (.inr m)
theorem fb_Y_closeTo_0 {w y : Prop} {g : g_S} {n : NS} {m : YS} (hy : y) {xv1 : Int32} {v1 : Int} (ev1 : xv1 = Int32.ofInt v1) (rv1 : inR v1) {xv2 : Int32} {v2 : Int} (ev2 : xv2 = Int32.ofInt v2) (rv2 : inR v2) {xv3 : Int32} {v3 : Int} (ev3 : xv3 = Int32.ofInt v3) (rv3 : inR v3) (hR : RC w y g n m) : Rf (RS (fun a b => RC w y a n b) (fun a b => RC w y a n b)) (b_Y_closeTo_0 1838 xv1 xv2 xv3 g) (nb_Y_closeTo_0 v1 v2 v3 m) := by
  subst ev1
  subst ev2
  subst ev3
  unfold b_Y_closeTo_0 nb_Y_closeTo_0
  refine y_I hR hy yk74 yt74 (fun h1 => ?_)
  refine rf_lt rfl rfl rv1 h1 ?_ ?_
  · refine y_I hR hy yk74 yt74 (fun h3 => ?_)
    refine rf_ck (fun h4 => ?_)
    refine y_pI hR hy yk74 ⟨yt74, yz74⟩ (e_sub rfl (e_n 1)) h4 (fun g8 m6 hR7 => ?_)
    refine y_Q hR7 hy ya73.1 (by decide) ?_
    refine y_I hR7 hy yk74 yt74 (fun h10 => ?_)
    refine y_aI hR7 hy ya73 yl73 rfl h10 (fun h11 h12 => ?_)
    refine rf_eq rfl rfl h12 rv2 ?_ ?_
    · exact rf_ok (by exact hR7)
    · refine rf_eq rfl rfl h12 rv3 ?_ ?_
      · exact rf_ok (by exact hR7)
      · refine y_Q hR7 hy ya46.1 (by decide) ?_
        refine y_aI hR7 hy ya46 yl46 rfl h12 (fun h16 h17 => ?_)
        refine rf_eq rfl (e_n 1) h17 (show inR 1 by decide) ?_ ?_
        · exact rf_ok (by exact hR7)
        · refine y_Q hR7 hy ya46.1 (by decide) ?_
          refine y_aI hR7 hy ya46 yl46 rfl h12 (fun h20 h21 => ?_)
          refine rf_eq rfl (e_n 4) h21 (show inR 4 by decide) ?_ ?_
          · exact rf_ok (by exact hR7)
          · refine y_Q hR7 hy ya67.1 (by decide) ?_
            refine y_aI hR7 hy ya67 yl67 rfl h12 (fun h24 h25 => ?_)
            refine v_c (y_gt hR7 hy) ?_
            refine rf_bind (f_Y_tellFault hy (e_n 4) (show inR 4 by decide) rfl h25 hR7) (fun g29 m27 hR28 => ?_)
            exact rf_ok (by exact hR28)
  · exact rf_ok (by exact hR)
noncomputable def NL_Y_closeTo_0 (v1 : Int) (v2 : Int) (v3 : Int) (m : YS) : Option (YS) :=
  it (fun s : YS => nb_Y_closeTo_0 v1 v2 v3 s) (m)
theorem fL_Y_closeTo_0 {w y : Prop} {g : g_S} {n : NS} {m : YS} (hy : y) {xv1 : Int32} {v1 : Int} (ev1 : xv1 = Int32.ofInt v1) (rv1 : inR v1) {xv2 : Int32} {v2 : Int} (ev2 : xv2 = Int32.ofInt v2) (rv2 : inR v2) {xv3 : Int32} {v3 : Int} (ev3 : xv3 = Int32.ofInt v3) (rv3 : inR v3) (hR : RC w y g n m) : Rf (fun a b => RC w y a n b) (L_Y_closeTo_0 1838 xv1 xv2 xv3 g) (NL_Y_closeTo_0 v1 v2 v3 m) := by
  subst ev1
  subst ev2
  subst ev3
  unfold L_Y_closeTo_0 NL_Y_closeTo_0
  refine rf_it (I := (fun a b => RC w y a n b)) (fun s t h => ?_) hR
  exact fb_Y_closeTo_0 hy rfl rv1 rfl rv2 rfl rv3 h
theorem NL_Y_closeTo_0_eq (v1 : Int) (v2 : Int) (v3 : Int) (m : YS) : NL_Y_closeTo_0 v1 v2 v3 m = itc (nb_Y_closeTo_0 v1 v2 v3 m) (fun s => NL_Y_closeTo_0 v1 v2 v3 s) := it_eq2 (fun s : YS => nb_Y_closeTo_0 v1 v2 v3 s) (m)
noncomputable def N_Y_closeTo (v1 : Int) (v2 : Int) (v3 : Int) (m : YS) : Option (YS) :=
  (NL_Y_closeTo_0 v1 v2 v3 m).bind <| fun m1 =>
  some m1
theorem f_Y_closeTo {w y : Prop} {g : g_S} {n : NS} {m : YS} (hy : y) {xv1 : Int32} {v1 : Int} (ev1 : xv1 = Int32.ofInt v1) (rv1 : inR v1) {xv2 : Int32} {v2 : Int} (ev2 : xv2 = Int32.ofInt v2) (rv2 : inR v2) {xv3 : Int32} {v3 : Int} (ev3 : xv3 = Int32.ofInt v3) (rv3 : inR v3) (hR : RC w y g n m) : Rf (fun a b => RC w y a n b) (M_Y_closeTo 1838 xv1 xv2 xv3 g) (N_Y_closeTo v1 v2 v3 m) := by
  subst ev1
  subst ev2
  subst ev3
  unfold M_Y_closeTo N_Y_closeTo
  refine rf_bind (fL_Y_closeTo_0 hy rfl rv1 rfl rv2 rfl rv3 hR) (fun a2 m1 h => ?_)
  have hR3 : RC w y a2 n m1 := h
  exact rf_ok (by exact hR3)
noncomputable def nb_Y_endTag_7 (v1 : Int) (v2 : Int) (v3 : Int) (m : YS) : Option ((Int) ⊕ (Int)) :=
  if 0 < v3 then
    ix v3 22 <|
    ix (m 73 v3) 120 <|
    if (m 46 (m 73 v3)) = v2 then
      if v2 = 16 then
        ix v3 22 <|
        ix (m 73 v3) 120 <|
        if (m 48 (m 73 v3)) = (m 79 0) then
          ix v3 22 <|
          ck (8 * (m 73 v3)) <|
          (N_Y_same 47 (8 * (m 73 v3)) 78 0 (m 79 0) m).bind fun z26 =>
          if z26 = 0 then
            ck (v3 + (-1)) <|
            some (.inl (v3 + (-1)))
          else
            some (.inr v3)
        else
          ck (v3 + (-1)) <|
          some (.inl (v3 + (-1)))
      else
        some (.inr v3)
    else
      ck (v3 + (-1)) <|
      some (.inl (v3 + (-1)))
  else
    some (.inr v3)
theorem fb_Y_endTag_7 {w y : Prop} {g : g_S} {n : NS} {m : YS} (hy : y) {xv1 : Int32} {v1 : Int} (ev1 : xv1 = Int32.ofInt v1) (rv1 : inR v1) {xv2 : Int32} {v2 : Int} (ev2 : xv2 = Int32.ofInt v2) (rv2 : inR v2) {xv3 : Int32} {v3 : Int} (ev3 : xv3 = Int32.ofInt v3) (rv3 : inR v3) (hR : RC w y g n m) : Rf (RS (fun a b => RI a b) (fun a b => RI a b)) (b_Y_endTag_7 1838 xv1 xv2 xv3 g) (nb_Y_endTag_7 v1 v2 v3 m) := by
  subst ev1
  subst ev2
  subst ev3
  unfold b_Y_endTag_7 nb_Y_endTag_7
  refine rf_lt (e_n 0) rfl (show inR 0 by decide) rv3 ?_ ?_
  · refine y_Q hR hy ya46.1 (by decide) ?_
    refine y_Q hR hy ya73.1 (by decide) ?_
    refine y_aI hR hy ya73 yl73 rfl rv3 (fun h4 h5 => ?_)
    refine y_aI hR hy ya46 yl46 rfl h5 (fun h6 h7 => ?_)
    refine rf_eq rfl rfl h7 rv2 ?_ ?_
    · refine rf_eq rfl (e_n 16) rv2 (show inR 16 by decide) ?_ ?_
      · refine y_Q hR hy ya48.1 (by decide) ?_
        refine y_Q hR hy ya73.1 (by decide) ?_
        refine y_aI hR hy ya73 yl73 rfl rv3 (fun h12 h13 => ?_)
        refine y_aI hR hy ya48 yl48 rfl h13 (fun h14 h15 => ?_)
        refine y_I hR hy yk79 yt79 (fun h16 => ?_)
        refine rf_eq rfl rfl h15 h16 ?_ ?_
        · refine y_Q hR hy ya47.1 (by decide) ?_
          refine y_Q hR hy ya73.1 (by decide) ?_
          refine y_aI hR hy ya73 yl73 rfl rv3 (fun h20 h21 => ?_)
          refine rf_ck (fun h22 => ?_)
          refine y_Q hR hy ya78.1 (by decide) ?_
          refine y_I hR hy yk79 yt79 (fun h24 => ?_)
          refine rf_bind (f_Y_same hy rfl ya47 (e_mul (e_n 8) rfl) h22 rfl ya78 (e_n 0) (show inR 0 by decide) rfl h24 hR) (fun a28 z26 h => ?_)
          obtain ⟨rfl, r27⟩ := h
          refine rf_eq rfl (e_n 0) (inZ.r r27) (show inR 0 by decide) ?_ ?_
          · refine rf_ck (fun h30 => ?_)
            exact rf_ok (by exact ⟨(e_add rfl (e_m 1)), h30⟩)
          · exact rf_ok (by exact ⟨rfl, rv3⟩)
        · refine rf_ck (fun h31 => ?_)
          exact rf_ok (by exact ⟨(e_add rfl (e_m 1)), h31⟩)
      · exact rf_ok (by exact ⟨rfl, rv3⟩)
    · refine rf_ck (fun h32 => ?_)
      exact rf_ok (by exact ⟨(e_add rfl (e_m 1)), h32⟩)
  · exact rf_ok (by exact ⟨rfl, rv3⟩)
noncomputable def NL_Y_endTag_7 (v1 : Int) (v2 : Int) (v3 : Int) (m : YS) : Option (Int) :=
  it (fun s : Int => nb_Y_endTag_7 v1 v2 s m) (v3)
theorem fL_Y_endTag_7 {w y : Prop} {g : g_S} {n : NS} {m : YS} (hy : y) {xv1 : Int32} {v1 : Int} (ev1 : xv1 = Int32.ofInt v1) (rv1 : inR v1) {xv2 : Int32} {v2 : Int} (ev2 : xv2 = Int32.ofInt v2) (rv2 : inR v2) {xv3 : Int32} {v3 : Int} (ev3 : xv3 = Int32.ofInt v3) (rv3 : inR v3) (hR : RC w y g n m) : Rf (fun a b => RI a b) (L_Y_endTag_7 1838 xv1 xv2 xv3 g) (NL_Y_endTag_7 v1 v2 v3 m) := by
  subst ev1
  subst ev2
  subst ev3
  unfold L_Y_endTag_7 NL_Y_endTag_7
  refine rf_it (I := (fun a b => RI a b)) (fun s t h => ?_) ⟨rfl, rv3⟩
  exact fb_Y_endTag_7 hy rfl rv1 rfl rv2 h.1 h.2 hR
theorem NL_Y_endTag_7_eq (v1 : Int) (v2 : Int) (v3 : Int) (m : YS) : NL_Y_endTag_7 v1 v2 v3 m = itc (nb_Y_endTag_7 v1 v2 v3 m) (fun s => NL_Y_endTag_7 v1 v2 s m) := it_eq2 (fun s : Int => nb_Y_endTag_7 v1 v2 s m) (v3)
noncomputable def nk_Y_endTag_95 (v1 : Int) (m : YS) : Option (YS) :=
  (N_Y_tellFault 3 v1 m).bind fun m2 =>
  some m2
theorem fk_Y_endTag_95 {w y : Prop} {g : g_S} {n : NS} {m : YS} (hy : y) {xv1 : Int32} {v1 : Int} (ev1 : xv1 = Int32.ofInt v1) (rv1 : inR v1) (hR : RC w y g n m) : Rf (fun a b => RC w y a n b) (k_Y_endTag_95 1838 xv1 g) (nk_Y_endTag_95 v1 m) := by
  subst ev1
  unfold k_Y_endTag_95 nk_Y_endTag_95
  refine v_c (y_gt hR hy) ?_
  refine rf_bind (f_Y_tellFault hy (e_n 3) (show inR 3 by decide) rfl rv1 hR) (fun g4 m2 hR3 => ?_)
  exact rf_ok (by exact hR3)
noncomputable def nk_Y_endTag_84 (v1 : Int) (v2 : Int) (v3 : Int) (m : YS) : Option (YS) :=
  if v3 = 0 then
    nk_Y_endTag_95 v1 m
  else
    (N_Y_isEmptyTag v2 m).bind fun z3 =>
    if z3 = 0 then
      ix v3 22 <|
      (N_Y_closeTo v3 (m 73 v3) (-1) m).bind fun m11 =>
      some m11
    else
      nk_Y_endTag_95 v1 m
theorem fk_Y_endTag_84 {w y : Prop} {g : g_S} {n : NS} {m : YS} (hy : y) {xv1 : Int32} {v1 : Int} (ev1 : xv1 = Int32.ofInt v1) (rv1 : inR v1) {xv2 : Int32} {v2 : Int} (ev2 : xv2 = Int32.ofInt v2) (rv2 : inR v2) {xv3 : Int32} {v3 : Int} (ev3 : xv3 = Int32.ofInt v3) (rv3 : inR v3) (hR : RC w y g n m) : Rf (fun a b => RC w y a n b) (k_Y_endTag_84 1838 xv1 xv2 xv3 g) (nk_Y_endTag_84 v1 v2 v3 m) := by
  subst ev1
  subst ev2
  subst ev3
  unfold k_Y_endTag_84 nk_Y_endTag_84
  refine rf_eq rfl (e_n 0) rv3 (show inR 0 by decide) ?_ ?_
  · exact fk_Y_endTag_95 hy rfl rv1 hR
  · refine rf_bind (f_Y_isEmptyTag hy rfl rv2 hR) (fun a5 z3 h => ?_)
    obtain ⟨rfl, r4⟩ := h
    refine rf_eq rfl (e_n 0) (inZ.r r4) (show inR 0 by decide) ?_ ?_
    · refine y_Q hR hy ya73.1 (by decide) ?_
      refine y_aI hR hy ya73 yl73 rfl rv3 (fun h8 h9 => ?_)
      refine v_c (y_gt hR hy) ?_
      refine rf_bind (f_Y_closeTo hy rfl rv3 rfl h9 (e_m 1) (show inR (-1) by decide) hR) (fun g13 m11 hR12 => ?_)
      exact rf_ok (by exact hR12)
    · exact fk_Y_endTag_95 hy rfl rv1 hR
noncomputable def N_Y_endTag (v1 : Int) (v2 : Int) (m : YS) : Option (YS) :=
  ck ((m 74 0) - 1) <|
  (NL_Y_endTag_7 v1 v2 ((m 74 0) - 1) m).bind <| fun z3 =>
  nk_Y_endTag_84 v1 v2 z3 m
theorem f_Y_endTag {w y : Prop} {g : g_S} {n : NS} {m : YS} (hy : y) {xv1 : Int32} {v1 : Int} (ev1 : xv1 = Int32.ofInt v1) (rv1 : inR v1) {xv2 : Int32} {v2 : Int} (ev2 : xv2 = Int32.ofInt v2) (rv2 : inR v2) (hR : RC w y g n m) : Rf (fun a b => RC w y a n b) (M_Y_endTag 1838 xv1 xv2 g) (N_Y_endTag v1 v2 m) := by
  subst ev1
  subst ev2
  unfold M_Y_endTag N_Y_endTag
  refine y_I hR hy yk74 yt74 (fun h1 => ?_)
  refine rf_ck (fun h2 => ?_)
  refine rf_bind (fL_Y_endTag_7 hy rfl rv1 rfl rv2 (e_sub rfl (e_n 1)) h2 hR) (fun a4 z3 h => ?_)
  obtain ⟨rfl, r5⟩ := (show RI a4 z3 from h)
  exact fk_Y_endTag_84 hy rfl rv1 rfl rv2 rfl r5 hR
noncomputable def N_Y_isBlockTag (v0 : Int) (m : YS) : Option (Int) :=
  if 5 < v0 then
    if v0 = 11 then
      some 1
    else
      some 0
  else
    some 1
theorem f_Y_isBlockTag {w y : Prop} {g : g_S} {n : NS} {m : YS} (hy : y) {xv0 : Int32} {v0 : Int} (ev0 : xv0 = Int32.ofInt v0) (rv0 : inR v0) (hR : RC w y g n m) : Rf (fun a b => RZ a b) (M_Y_isBlockTag xv0 g) (N_Y_isBlockTag v0 m) := by
  subst ev0
  unfold M_Y_isBlockTag N_Y_isBlockTag
  refine rf_lt (e_n 5) rfl (show inR 5 by decide) rv0 ?_ ?_
  · refine rf_eq rfl (e_n 11) rv0 (show inR 11 by decide) ?_ ?_
    · exact rf_ok (by exact ⟨(e_n 1), (.inr rfl)⟩)
    · exact rf_ok (by exact ⟨(e_n 0), (.inl rfl)⟩)
  · exact rf_ok (by exact ⟨(e_n 1), (.inr rfl)⟩)
noncomputable def nb_Y_element_19 (v1 : Int) (v3 : Int) (m : YS) : Option ((Int × YS) ⊕ (YS)) :=
  if v3 < (m 79 0) then
    ck (8 * v1) <|
    ck ((8 * v1) + v3) <|
    ix v3 8 <|
    ix ((8 * v1) + v3) 960 <|
    st (yw m 47 ((8 * v1) + v3) (m 78 v3)) fun m10 =>
    ck (v3 + 1) <|
    some (.inl (v3 + 1, m10))
  else
    some (.inr m)
theorem fb_Y_element_19 {w y : Prop} {g : g_S} {n : NS} {m : YS} (hy : y) {xv1 : Int32} {v1 : Int} (ev1 : xv1 = Int32.ofInt v1) (rv1 : inR v1) {xv3 : Int32} {v3 : Int} (ev3 : xv3 = Int32.ofInt v3) (rv3 : inR v3) (hR : RC w y g n m) : Rf (RS (fun a b => RI a.1 b.1 ∧ RC w y a.2 n b.2) (fun a b => RC w y a n b)) (b_Y_element_19 1838 xv1 xv3 g) (nb_Y_element_19 v1 v3 m) := by
  subst ev1
  subst ev3
  unfold b_Y_element_19 nb_Y_element_19
  refine y_I hR hy yk79 yt79 (fun h1 => ?_)
  refine rf_lt rfl rfl rv3 h1 ?_ ?_
  · refine y_Q hR hy ya47.1 (by decide) ?_
    refine rf_ck (fun h4 => ?_)
    refine rf_ck (fun h5 => ?_)
    refine y_Q hR hy ya78.1 (by decide) ?_
    refine y_aB hR hy ya78 yl78 rfl rv3 (fun h7 h8 => ?_)
    refine y_sB hR hy ya47 yl47 (e_add (e_mul (e_n 8) rfl) rfl) h5 rfl h8 (fun g12 m10 hR11 => ?_)
    refine rf_ck (fun h13 => ?_)
    exact rf_ok (by exact ⟨⟨(e_add rfl (e_n 1)), h13⟩, hR11⟩)
  · exact rf_ok (by exact hR)
noncomputable def NL_Y_element_19 (v1 : Int) (v3 : Int) (m : YS) : Option (YS) :=
  it (fun s : Int × YS => nb_Y_element_19 v1 s.1 s.2) (v3, m)
theorem fL_Y_element_19 {w y : Prop} {g : g_S} {n : NS} {m : YS} (hy : y) {xv1 : Int32} {v1 : Int} (ev1 : xv1 = Int32.ofInt v1) (rv1 : inR v1) {xv3 : Int32} {v3 : Int} (ev3 : xv3 = Int32.ofInt v3) (rv3 : inR v3) (hR : RC w y g n m) : Rf (fun a b => RC w y a n b) (L_Y_element_19 1838 xv1 xv3 g) (NL_Y_element_19 v1 v3 m) := by
  subst ev1
  subst ev3
  unfold L_Y_element_19 NL_Y_element_19
  refine rf_it (I := (fun a b => RI a.1 b.1 ∧ RC w y a.2 n b.2)) (fun s t h => ?_) ⟨⟨rfl, rv3⟩, hR⟩
  exact fb_Y_element_19 hy rfl rv1 h.1.1 h.1.2 h.2
theorem NL_Y_element_19_eq (v1 : Int) (v3 : Int) (m : YS) : NL_Y_element_19 v1 v3 m = itc (nb_Y_element_19 v1 v3 m) (fun s => NL_Y_element_19 v1 s.1 s.2) := it_eq2 (fun s : Int × YS => nb_Y_element_19 v1 s.1 s.2) (v3, m)
noncomputable def N_Y_element (v1 : Int) (v2 : Int) (m : YS) : Option (YS) :=
  ix v1 120 <|
  st (yw m 46 v1 v2) fun m3 =>
  ix v1 120 <|
  st (yw m3 48 v1 (m3 79 0)) fun m9 =>
  (NL_Y_element_19 v1 0 m9).bind <| fun m12 =>
  some m12
theorem f_Y_element {w y : Prop} {g : g_S} {n : NS} {m : YS} (hy : y) {xv1 : Int32} {v1 : Int} (ev1 : xv1 = Int32.ofInt v1) (rv1 : inR v1) {xv2 : Int32} {v2 : Int} (ev2 : xv2 = Int32.ofInt v2) (rv2 : inR v2) (hR : RC w y g n m) : Rf (fun a b => RC w y a n b) (M_Y_element 1838 xv1 xv2 g) (N_Y_element v1 v2 m) := by
  subst ev1
  subst ev2
  unfold M_Y_element N_Y_element
  refine y_Q hR hy ya46.1 (by decide) ?_
  refine y_sI hR hy ya46 yl46 rfl rv1 rfl rv2 (fun g5 m3 hR4 => ?_)
  refine y_Q hR4 hy ya48.1 (by decide) ?_
  refine y_I hR4 hy yk79 yt79 (fun h7 => ?_)
  refine y_sI hR4 hy ya48 yl48 rfl rv1 rfl h7 (fun g11 m9 hR10 => ?_)
  refine rf_bind (fL_Y_element_19 hy rfl rv1 (e_n 0) (show inR 0 by decide) hR10) (fun a13 m12 h => ?_)
  have hR14 : RC w y a13 n m12 := h
  exact rf_ok (by exact hR14)
noncomputable def nb_Y_attributeOf_3 (v1 : Int) (v2 : Int) (v4 : Int) (m : YS) : Option ((Int) ⊕ ((Int) ⊕ (Unit))) :=
  ix v1 120 <|
  if v4 < (m 56 v1) then
    ck (4 * v1) <|
    ck ((4 * v1) + v4) <|
    ix ((4 * v1) + v4) 480 <|
    (N_Y_lengthOf v2 m).bind fun z11 =>
    if (m 58 ((4 * v1) + v4)) = z11 then
      ck (8 * ((4 * v1) + v4)) <|
      ck (8 * ((4 * v1) + v4)) <|
      ix ((4 * v1) + v4) 480 <|
      ck ((8 * ((4 * v1) + v4)) + (m 58 ((4 * v1) + v4))) <|
      (N_Y_isWord 57 (8 * ((4 * v1) + v4)) ((8 * ((4 * v1) + v4)) + (m 58 ((4 * v1) + v4))) v2 m).bind fun z23 =>
      if z23 = 0 then
        ck (v4 + 1) <|
        some (.inl (v4 + 1))
      else
        some (.inr (.inl ((4 * v1) + v4)))
    else
      ck (v4 + 1) <|
      some (.inl (v4 + 1))
  else
    some (.inr (.inr ()))
theorem fb_Y_attributeOf_3 {w y : Prop} {g : g_S} {n : NS} {m : YS} (hy : y) {xv1 : Int32} {v1 : Int} (ev1 : xv1 = Int32.ofInt v1) (rv1 : inR v1) {xv2 : Int64} {v2 : Int} (ev2 : xv2 = Int64.ofInt v2) (rv2 : inL v2) {xv4 : Int32} {v4 : Int} (ev4 : xv4 = Int32.ofInt v4) (rv4 : inR v4) (hR : RC w y g n m) : Rf (RS (fun a b => RI a b) (RS (fun a b => RI a b) (fun _ _ => True))) (b_Y_attributeOf_3 1838 xv1 xv2 xv4 g) (nb_Y_attributeOf_3 v1 v2 v4 m) := by
  subst ev1
  subst ev2
  subst ev4
  unfold b_Y_attributeOf_3 nb_Y_attributeOf_3
  refine y_Q hR hy ya56.1 (by decide) ?_
  refine y_aI hR hy ya56 yl56 rfl rv1 (fun h2 h3 => ?_)
  refine rf_lt rfl rfl rv4 h3 ?_ ?_
  · refine rf_ck (fun h5 => ?_)
    refine rf_ck (fun h6 => ?_)
    refine y_Q hR hy ya58.1 (by decide) ?_
    refine y_aI hR hy ya58 yl58 (e_add (e_mul (e_n 4) rfl) rfl) h6 (fun h8 h9 => ?_)
    refine rf_bind (f_Y_lengthOf hy rfl rv2 hR) (fun a13 z11 h => ?_)
    obtain ⟨rfl, r12⟩ := h
    refine rf_eq rfl rfl h9 r12 ?_ ?_
    · refine y_Q hR hy ya57.1 (by decide) ?_
      refine rf_ck (fun h16 => ?_)
      refine rf_ck (fun h17 => ?_)
      refine y_Q hR hy ya58.1 (by decide) ?_
      refine y_aI hR hy ya58 yl58 (e_add (e_mul (e_n 4) rfl) rfl) h6 (fun h19 h20 => ?_)
      refine rf_ck (fun h21 => ?_)
      refine rf_bind (f_Y_isWord hy rfl ya57 (e_mul (e_n 8) (e_add (e_mul (e_n 4) rfl) rfl)) h16 (e_add (e_mul (e_n 8) (e_add (e_mul (e_n 4) rfl) rfl)) rfl) h21 rfl rv2 hR) (fun a25 z23 h => ?_)
      obtain ⟨rfl, r24⟩ := h
      refine rf_eq rfl (e_n 0) (inZ.r r24) (show inR 0 by decide) ?_ ?_
      · refine rf_ck (fun h27 => ?_)
        exact rf_ok (by exact ⟨(e_add rfl (e_n 1)), h27⟩)
      · exact rf_ok (by exact ⟨(e_add (e_mul (e_n 4) rfl) rfl), h6⟩)
    · refine rf_ck (fun h28 => ?_)
      exact rf_ok (by exact ⟨(e_add rfl (e_n 1)), h28⟩)
  · exact rf_ok (by exact trivial)
noncomputable def NL_Y_attributeOf_3 (v1 : Int) (v2 : Int) (v4 : Int) (m : YS) : Option ((Int) ⊕ (Unit)) :=
  it (fun s : Int => nb_Y_attributeOf_3 v1 v2 s m) (v4)
theorem fL_Y_attributeOf_3 {w y : Prop} {g : g_S} {n : NS} {m : YS} (hy : y) {xv1 : Int32} {v1 : Int} (ev1 : xv1 = Int32.ofInt v1) (rv1 : inR v1) {xv2 : Int64} {v2 : Int} (ev2 : xv2 = Int64.ofInt v2) (rv2 : inL v2) {xv4 : Int32} {v4 : Int} (ev4 : xv4 = Int32.ofInt v4) (rv4 : inR v4) (hR : RC w y g n m) : Rf (RS (fun a b => RI a b) (fun _ _ => True)) (L_Y_attributeOf_3 1838 xv1 xv2 xv4 g) (NL_Y_attributeOf_3 v1 v2 v4 m) := by
  subst ev1
  subst ev2
  subst ev4
  unfold L_Y_attributeOf_3 NL_Y_attributeOf_3
  refine rf_it (I := (fun a b => RI a b)) (fun s t h => ?_) ⟨rfl, rv4⟩
  exact fb_Y_attributeOf_3 hy rfl rv1 rfl rv2 h.1 h.2 hR
theorem NL_Y_attributeOf_3_eq (v1 : Int) (v2 : Int) (v4 : Int) (m : YS) : NL_Y_attributeOf_3 v1 v2 v4 m = itc (nb_Y_attributeOf_3 v1 v2 v4 m) (fun s => NL_Y_attributeOf_3 v1 v2 s m) := it_eq2 (fun s : Int => nb_Y_attributeOf_3 v1 v2 s m) (v4)
noncomputable def N_Y_attributeOf (v1 : Int) (v2 : Int) (m : YS) : Option (Int) :=
  (NL_Y_attributeOf_3 v1 v2 0 m).bind <|
    us (fun z1 =>
    some z1)
    (fun _ =>
    some (-1))
theorem f_Y_attributeOf {w y : Prop} {g : g_S} {n : NS} {m : YS} (hy : y) {xv1 : Int32} {v1 : Int} (ev1 : xv1 = Int32.ofInt v1) (rv1 : inR v1) {xv2 : Int64} {v2 : Int} (ev2 : xv2 = Int64.ofInt v2) (rv2 : inL v2) (hR : RC w y g n m) : Rf (fun a b => RI a b) (M_Y_attributeOf 1838 xv1 xv2 g) (N_Y_attributeOf v1 v2 m) := by
  subst ev1
  subst ev2
  unfold M_Y_attributeOf N_Y_attributeOf
  refine rf_bind (fL_Y_attributeOf_3 hy rfl rv1 rfl rv2 (e_n 0) (show inR 0 by decide) hR) (fun a b h => rf_us h (fun a2 z1 h => ?_) (fun a b h => ?_))
  · obtain ⟨rfl, r3⟩ := (show RI a2 z1 from h)
    exact rf_ok (by exact ⟨rfl, r3⟩)
  · exact rf_ok (by exact ⟨(e_m 1), (show inR (-1) by decide)⟩)
noncomputable def N_Y_isCheck (v1 : Int) (m : YS) : Option (Int) :=
  (N_Y_attributeOf v1 181044 m).bind fun z3 =>
  ix v1 120 <|
  if (m 46 v1) = 13 then
    if z3 = (-1) then
      some 0
    else
      ix z3 480 <|
      if (m 60 z3) = 5 then
        ck (60 * z3) <|
        ck (60 * z3) <|
        ck ((60 * z3) + 5) <|
        (N_Y_isWord 59 (60 * z3) ((60 * z3) + 5) 11638019 m).bind fun z22 =>
        if z22 = 0 then
          some 0
        else
          some 1
      else
        some 0
  else
    some 0
theorem f_Y_isCheck {w y : Prop} {g : g_S} {n : NS} {m : YS} (hy : y) {xv1 : Int32} {v1 : Int} (ev1 : xv1 = Int32.ofInt v1) (rv1 : inR v1) (hR : RC w y g n m) : Rf (fun a b => RZ a b) (M_Y_isCheck 1838 xv1 g) (N_Y_isCheck v1 m) := by
  subst ev1
  unfold M_Y_isCheck N_Y_isCheck
  refine v_c (y_gt hR hy) ?_
  refine rf_bind (f_Y_attributeOf hy rfl rv1 (f_n 181044) (show inL 181044 by decide) hR) (fun a5 z3 h => ?_)
  obtain ⟨rfl, r4⟩ := h
  refine y_Q hR hy ya46.1 (by decide) ?_
  refine y_aI hR hy ya46 yl46 rfl rv1 (fun h7 h8 => ?_)
  refine rf_eq rfl (e_n 13) h8 (show inR 13 by decide) ?_ ?_
  · refine rf_eq rfl (e_m 1) r4 (show inR (-1) by decide) ?_ ?_
    · exact rf_ok (by exact ⟨(e_n 0), (.inl rfl)⟩)
    · refine y_Q hR hy ya60.1 (by decide) ?_
      refine y_aI hR hy ya60 yl60 rfl r4 (fun h13 h14 => ?_)
      refine rf_eq rfl (e_n 5) h14 (show inR 5 by decide) ?_ ?_
      · refine y_Q hR hy ya59.1 (by decide) ?_
        refine rf_ck (fun h17 => ?_)
        refine rf_ck (fun h18 => ?_)
        refine rf_ck (fun h19 => ?_)
        refine rf_bind (f_Y_isWord hy rfl ya59 (e_mul (e_n 60) rfl) h17 (e_add (e_mul (e_n 60) rfl) (e_n 5)) h19 (f_n 11638019) (show inL 11638019 by decide) hR) (fun a24 z22 h => ?_)
        obtain ⟨rfl, r23⟩ := h
        refine rf_eq rfl (e_n 0) (inZ.r r23) (show inR 0 by decide) ?_ ?_
        · exact rf_ok (by exact ⟨(e_n 0), (.inl rfl)⟩)
        · exact rf_ok (by exact ⟨(e_n 1), (.inr rfl)⟩)
      · exact rf_ok (by exact ⟨(e_n 0), (.inl rfl)⟩)
  · exact rf_ok (by exact ⟨(e_n 0), (.inl rfl)⟩)
noncomputable def nb_Y_settleInput_49 (v1 : Int) (v2 : Int) (v3 : Int) (m : YS) : Option ((Int × YS) ⊕ (YS)) :=
  ix v1 120 <|
  if v3 < (m 65 v1) then
    ck (24 * v1) <|
    ck ((24 * v1) + v3) <|
    ck (60 * v2) <|
    ck ((60 * v2) + v3) <|
    ix ((60 * v2) + v3) 28800 <|
    ix ((24 * v1) + v3) 2880 <|
    st (yw m 64 ((24 * v1) + v3) (m 59 ((60 * v2) + v3))) fun m14 =>
    ck (v3 + 1) <|
    some (.inl (v3 + 1, m14))
  else
    some (.inr m)
theorem fb_Y_settleInput_49 {w y : Prop} {g : g_S} {n : NS} {m : YS} (hy : y) {xv1 : Int32} {v1 : Int} (ev1 : xv1 = Int32.ofInt v1) (rv1 : inR v1) {xv2 : Int32} {v2 : Int} (ev2 : xv2 = Int32.ofInt v2) (rv2 : inR v2) {xv3 : Int32} {v3 : Int} (ev3 : xv3 = Int32.ofInt v3) (rv3 : inR v3) (hR : RC w y g n m) : Rf (RS (fun a b => RI a.1 b.1 ∧ RC w y a.2 n b.2) (fun a b => RC w y a n b)) (b_Y_settleInput_49 1838 xv1 xv2 xv3 g) (nb_Y_settleInput_49 v1 v2 v3 m) := by
  subst ev1
  subst ev2
  subst ev3
  unfold b_Y_settleInput_49 nb_Y_settleInput_49
  refine y_Q hR hy ya65.1 (by decide) ?_
  refine y_aI hR hy ya65 yl65 rfl rv1 (fun h2 h3 => ?_)
  refine rf_lt rfl rfl rv3 h3 ?_ ?_
  · refine y_Q hR hy ya64.1 (by decide) ?_
    refine rf_ck (fun h6 => ?_)
    refine rf_ck (fun h7 => ?_)
    refine y_Q hR hy ya59.1 (by decide) ?_
    refine rf_ck (fun h9 => ?_)
    refine rf_ck (fun h10 => ?_)
    refine y_aB hR hy ya59 yl59 (e_add (e_mul (e_n 60) rfl) rfl) h10 (fun h11 h12 => ?_)
    refine y_sB hR hy ya64 yl64 (e_add (e_mul (e_n 24) rfl) rfl) h7 rfl h12 (fun g16 m14 hR15 => ?_)
    refine rf_ck (fun h17 => ?_)
    exact rf_ok (by exact ⟨⟨(e_add rfl (e_n 1)), h17⟩, hR15⟩)
  · exact rf_ok (by exact hR)
noncomputable def NL_Y_settleInput_49 (v1 : Int) (v2 : Int) (v3 : Int) (m : YS) : Option (YS) :=
  it (fun s : Int × YS => nb_Y_settleInput_49 v1 v2 s.1 s.2) (v3, m)
theorem fL_Y_settleInput_49 {w y : Prop} {g : g_S} {n : NS} {m : YS} (hy : y) {xv1 : Int32} {v1 : Int} (ev1 : xv1 = Int32.ofInt v1) (rv1 : inR v1) {xv2 : Int32} {v2 : Int} (ev2 : xv2 = Int32.ofInt v2) (rv2 : inR v2) {xv3 : Int32} {v3 : Int} (ev3 : xv3 = Int32.ofInt v3) (rv3 : inR v3) (hR : RC w y g n m) : Rf (fun a b => RC w y a n b) (L_Y_settleInput_49 1838 xv1 xv2 xv3 g) (NL_Y_settleInput_49 v1 v2 v3 m) := by
  subst ev1
  subst ev2
  subst ev3
  unfold L_Y_settleInput_49 NL_Y_settleInput_49
  refine rf_it (I := (fun a b => RI a.1 b.1 ∧ RC w y a.2 n b.2)) (fun s t h => ?_) ⟨⟨rfl, rv3⟩, hR⟩
  exact fb_Y_settleInput_49 hy rfl rv1 rfl rv2 h.1.1 h.1.2 h.2
theorem NL_Y_settleInput_49_eq (v1 : Int) (v2 : Int) (v3 : Int) (m : YS) : NL_Y_settleInput_49 v1 v2 v3 m = itc (nb_Y_settleInput_49 v1 v2 v3 m) (fun s => NL_Y_settleInput_49 v1 v2 s.1 s.2) := it_eq2 (fun s : Int × YS => nb_Y_settleInput_49 v1 v2 s.1 s.2) (v3, m)
noncomputable def nk_Y_settleInput_117 (w0 : Int) (w1 : Int) (m : YS) : Option (YS) :=
  cz w0 <|
  ix w1 120 <|
  st (yw m 66 w1 w0) fun m3 =>
  some m3
theorem fk_Y_settleInput_117 {w y : Prop} {g : g_S} {n : NS} {m : YS} (hy : y) {xw0 : Int32} {w0 : Int} (ew0 : xw0 = Int32.ofInt w0) (rw0 : inR w0) {xw1 : Int32} {w1 : Int} (ew1 : xw1 = Int32.ofInt w1) (rw1 : inR w1) (hR : RC w y g n m) : Rf (fun a b => RC w y a n b) (k_Y_settleInput_117 xw0 xw1 (yAd 66) g) (nk_Y_settleInput_117 w0 w1 m) := by
  subst ew0
  subst ew1
  unfold k_Y_settleInput_117 nk_Y_settleInput_117
  refine rf_cz (fun h2 => ?_)
  refine y_sZ hR hy ya66 yl66 rfl rw1 rfl h2 (fun g5 m3 hR4 => ?_)
  exact rf_ok (by exact hR4)
noncomputable def nk_Y_settleInput_116 (w0 : Int) (m : YS) : Option (YS) :=
  nk_Y_settleInput_117 0 w0 m
theorem fk_Y_settleInput_116 {w y : Prop} {g : g_S} {n : NS} {m : YS} (hy : y) {xw0 : Int32} {w0 : Int} (ew0 : xw0 = Int32.ofInt w0) (rw0 : inR w0) (hR : RC w y g n m) : Rf (fun a b => RC w y a n b) (k_Y_settleInput_116 xw0 (yAd 66) g) (nk_Y_settleInput_116 w0 m) := by
  subst ew0
  unfold k_Y_settleInput_116 nk_Y_settleInput_116
  exact fk_Y_settleInput_117 hy (e_n 0) (show inR 0 by decide) rfl rw0 hR
noncomputable def nk_Y_settleInput_46 (v1 : Int) (v2 : Int) (w0 : Int) (w1 : Int) (m : YS) : Option (YS) :=
  ix w1 120 <|
  st (yw m 65 w1 w0) fun m2 =>
  (NL_Y_settleInput_49 v1 v2 0 m2).bind <| fun m5 =>
  (N_Y_isCheck v1 m5).bind fun z10 =>
  if z10 = 0 then
    nk_Y_settleInput_116 v1 m5
  else
    (N_Y_attributeOf v1 4474377475 m5).bind fun z16 =>
    if z16 = (-1) then
      nk_Y_settleInput_116 v1 m5
    else
      nk_Y_settleInput_117 1 v1 m5
theorem fk_Y_settleInput_46 {w y : Prop} {g : g_S} {n : NS} {m : YS} (hy : y) {xv1 : Int32} {v1 : Int} (ev1 : xv1 = Int32.ofInt v1) (rv1 : inR v1) {xv2 : Int32} {v2 : Int} (ev2 : xv2 = Int32.ofInt v2) (rv2 : inR v2) {xw0 : Int32} {w0 : Int} (ew0 : xw0 = Int32.ofInt w0) (rw0 : inR w0) {xw1 : Int32} {w1 : Int} (ew1 : xw1 = Int32.ofInt w1) (rw1 : inR w1) (hR : RC w y g n m) : Rf (fun a b => RC w y a n b) (k_Y_settleInput_46 1838 xv1 xv2 xw0 xw1 (yAd 65) g) (nk_Y_settleInput_46 v1 v2 w0 w1 m) := by
  subst ev1
  subst ev2
  subst ew0
  subst ew1
  unfold k_Y_settleInput_46 nk_Y_settleInput_46
  refine y_sI hR hy ya65 yl65 rfl rw1 rfl rw0 (fun g4 m2 hR3 => ?_)
  refine rf_bind (fL_Y_settleInput_49 hy rfl rv1 rfl rv2 (e_n 0) (show inR 0 by decide) hR3) (fun a6 m5 h => ?_)
  have hR7 : RC w y a6 n m5 := h
  refine y_Q hR7 hy ya66.1 (by decide) ?_
  refine v_c (y_gt hR7 hy) ?_
  refine rf_bind (f_Y_isCheck hy rfl rv1 hR7) (fun a12 z10 h => ?_)
  obtain ⟨rfl, r11⟩ := h
  refine rf_eq rfl (e_n 0) (inZ.r r11) (show inR 0 by decide) ?_ ?_
  · exact fk_Y_settleInput_116 hy rfl rv1 hR7
  · refine v_c (y_gt hR7 hy) ?_
    refine rf_bind (f_Y_attributeOf hy rfl rv1 (f_n 4474377475) (show inL 4474377475 by decide) hR7) (fun a18 z16 h => ?_)
    obtain ⟨rfl, r17⟩ := h
    refine rf_eq rfl (e_m 1) r17 (show inR (-1) by decide) ?_ ?_
    · exact fk_Y_settleInput_116 hy rfl rv1 hR7
    · exact fk_Y_settleInput_117 hy (e_n 1) (show inR 1 by decide) rfl rv1 hR7
noncomputable def N_Y_settleInput (v1 : Int) (m : YS) : Option (YS) :=
  ix v1 120 <|
  if (m 46 v1) = 13 then
    (N_Y_attributeOf v1 5943350 m).bind fun z7 =>
    if z7 = (-1) then
      nk_Y_settleInput_46 v1 z7 0 v1 m
    else
      ix z7 480 <|
      nk_Y_settleInput_46 v1 z7 (min 24 (m 60 z7)) v1 m
  else
    some m
theorem f_Y_settleInput {w y : Prop} {g : g_S} {n : NS} {m : YS} (hy : y) {xv1 : Int32} {v1 : Int} (ev1 : xv1 = Int32.ofInt v1) (rv1 : inR v1) (hR : RC w y g n m) : Rf (fun a b => RC w y a n b) (M_Y_settleInput 1838 xv1 g) (N_Y_settleInput v1 m) := by
  subst ev1
  unfold M_Y_settleInput N_Y_settleInput
  refine y_Q hR hy ya46.1 (by decide) ?_
  refine y_aI hR hy ya46 yl46 rfl rv1 (fun h2 h3 => ?_)
  refine rf_eq rfl (e_n 13) h3 (show inR 13 by decide) ?_ ?_
  · refine v_c (y_gt hR hy) ?_
    refine rf_bind (f_Y_attributeOf hy rfl rv1 (f_n 5943350) (show inL 5943350 by decide) hR) (fun a9 z7 h => ?_)
    obtain ⟨rfl, r8⟩ := h
    refine y_Q hR hy ya65.1 (by decide) ?_
    refine rf_eq rfl (e_m 1) r8 (show inR (-1) by decide) ?_ ?_
    · exact fk_Y_settleInput_46 hy rfl rv1 rfl r8 (e_n 0) (show inR 0 by decide) rfl rv1 hR
    · refine y_Q hR hy ya60.1 (by decide) ?_
      refine y_aI hR hy ya60 yl60 rfl r8 (fun h13 h14 => ?_)
      exact fk_Y_settleInput_46 hy rfl rv1 rfl r8 (e_mn (e_n 24) rfl (show inR 24 by decide) h14) (min_r (show inR 24 by decide) h14) rfl rv1 hR
  · exact rf_ok (by exact hR)
noncomputable def nb_Y_startTag_14 (v1 : Int) (v2 : Int) (v3 : Int) (m : YS) : Option ((Int) ⊕ (Int)) :=
  if 0 < v3 then
    ix v3 22 <|
    ix (m 73 v3) 120 <|
    if (m 46 (m 73 v3)) = 1 then
      some (.inr v3)
    else
      ck (v3 + (-1)) <|
      some (.inl (v3 + (-1)))
  else
    some (.inr v3)
theorem fb_Y_startTag_14 {w y : Prop} {g : g_S} {n : NS} {m : YS} (hy : y) {xv1 : Int32} {v1 : Int} (ev1 : xv1 = Int32.ofInt v1) (rv1 : inR v1) {xv2 : Int32} {v2 : Int} (ev2 : xv2 = Int32.ofInt v2) (rv2 : inR v2) {xv3 : Int32} {v3 : Int} (ev3 : xv3 = Int32.ofInt v3) (rv3 : inR v3) (hR : RC w y g n m) : Rf (RS (fun a b => RI a b) (fun a b => RI a b)) (b_Y_startTag_14 1838 xv1 xv2 xv3 g) (nb_Y_startTag_14 v1 v2 v3 m) := by
  subst ev1
  subst ev2
  subst ev3
  unfold b_Y_startTag_14 nb_Y_startTag_14
  refine rf_lt (e_n 0) rfl (show inR 0 by decide) rv3 ?_ ?_
  · refine y_Q hR hy ya46.1 (by decide) ?_
    refine y_Q hR hy ya73.1 (by decide) ?_
    refine y_aI hR hy ya73 yl73 rfl rv3 (fun h4 h5 => ?_)
    refine y_aI hR hy ya46 yl46 rfl h5 (fun h6 h7 => ?_)
    refine rf_eq rfl (e_n 1) h7 (show inR 1 by decide) ?_ ?_
    · exact rf_ok (by exact ⟨rfl, rv3⟩)
    · refine rf_ck (fun h9 => ?_)
      exact rf_ok (by exact ⟨(e_add rfl (e_m 1)), h9⟩)
  · exact rf_ok (by exact ⟨rfl, rv3⟩)
noncomputable def NL_Y_startTag_14 (v1 : Int) (v2 : Int) (v3 : Int) (m : YS) : Option (Int) :=
  it (fun s : Int => nb_Y_startTag_14 v1 v2 s m) (v3)
theorem fL_Y_startTag_14 {w y : Prop} {g : g_S} {n : NS} {m : YS} (hy : y) {xv1 : Int32} {v1 : Int} (ev1 : xv1 = Int32.ofInt v1) (rv1 : inR v1) {xv2 : Int32} {v2 : Int} (ev2 : xv2 = Int32.ofInt v2) (rv2 : inR v2) {xv3 : Int32} {v3 : Int} (ev3 : xv3 = Int32.ofInt v3) (rv3 : inR v3) (hR : RC w y g n m) : Rf (fun a b => RI a b) (L_Y_startTag_14 1838 xv1 xv2 xv3 g) (NL_Y_startTag_14 v1 v2 v3 m) := by
  subst ev1
  subst ev2
  subst ev3
  unfold L_Y_startTag_14 NL_Y_startTag_14
  refine rf_it (I := (fun a b => RI a b)) (fun s t h => ?_) ⟨rfl, rv3⟩
  exact fb_Y_startTag_14 hy rfl rv1 rfl rv2 h.1 h.2 hR
theorem NL_Y_startTag_14_eq (v1 : Int) (v2 : Int) (v3 : Int) (m : YS) : NL_Y_startTag_14 v1 v2 v3 m = itc (nb_Y_startTag_14 v1 v2 v3 m) (fun s => NL_Y_startTag_14 v1 v2 s m) := it_eq2 (fun s : Int => nb_Y_startTag_14 v1 v2 s m) (v3)
noncomputable def nb_Y_startTag_141 (v1 : Int) (v2 : Int) (v3 : Int) (m : YS) : Option ((Int) ⊕ (Int)) :=
  if 0 < v3 then
    ix v3 22 <|
    ix (m 73 v3) 120 <|
    if (m 46 (m 73 v3)) = 7 then
      some (.inr v3)
    else
      ck (v3 + (-1)) <|
      some (.inl (v3 + (-1)))
  else
    some (.inr v3)
theorem fb_Y_startTag_141 {w y : Prop} {g : g_S} {n : NS} {m : YS} (hy : y) {xv1 : Int32} {v1 : Int} (ev1 : xv1 = Int32.ofInt v1) (rv1 : inR v1) {xv2 : Int32} {v2 : Int} (ev2 : xv2 = Int32.ofInt v2) (rv2 : inR v2) {xv3 : Int32} {v3 : Int} (ev3 : xv3 = Int32.ofInt v3) (rv3 : inR v3) (hR : RC w y g n m) : Rf (RS (fun a b => RI a b) (fun a b => RI a b)) (b_Y_startTag_141 1838 xv1 xv2 xv3 g) (nb_Y_startTag_141 v1 v2 v3 m) := by
  subst ev1
  subst ev2
  subst ev3
  unfold b_Y_startTag_141 nb_Y_startTag_141
  refine rf_lt (e_n 0) rfl (show inR 0 by decide) rv3 ?_ ?_
  · refine y_Q hR hy ya46.1 (by decide) ?_
    refine y_Q hR hy ya73.1 (by decide) ?_
    refine y_aI hR hy ya73 yl73 rfl rv3 (fun h4 h5 => ?_)
    refine y_aI hR hy ya46 yl46 rfl h5 (fun h6 h7 => ?_)
    refine rf_eq rfl (e_n 7) h7 (show inR 7 by decide) ?_ ?_
    · exact rf_ok (by exact ⟨rfl, rv3⟩)
    · refine rf_ck (fun h9 => ?_)
      exact rf_ok (by exact ⟨(e_add rfl (e_m 1)), h9⟩)
  · exact rf_ok (by exact ⟨rfl, rv3⟩)
noncomputable def NL_Y_startTag_141 (v1 : Int) (v2 : Int) (v3 : Int) (m : YS) : Option (Int) :=
  it (fun s : Int => nb_Y_startTag_141 v1 v2 s m) (v3)
theorem fL_Y_startTag_141 {w y : Prop} {g : g_S} {n : NS} {m : YS} (hy : y) {xv1 : Int32} {v1 : Int} (ev1 : xv1 = Int32.ofInt v1) (rv1 : inR v1) {xv2 : Int32} {v2 : Int} (ev2 : xv2 = Int32.ofInt v2) (rv2 : inR v2) {xv3 : Int32} {v3 : Int} (ev3 : xv3 = Int32.ofInt v3) (rv3 : inR v3) (hR : RC w y g n m) : Rf (fun a b => RI a b) (L_Y_startTag_141 1838 xv1 xv2 xv3 g) (NL_Y_startTag_141 v1 v2 v3 m) := by
  subst ev1
  subst ev2
  subst ev3
  unfold L_Y_startTag_141 NL_Y_startTag_141
  refine rf_it (I := (fun a b => RI a b)) (fun s t h => ?_) ⟨rfl, rv3⟩
  exact fb_Y_startTag_141 hy rfl rv1 rfl rv2 h.1 h.2 hR
theorem NL_Y_startTag_141_eq (v1 : Int) (v2 : Int) (v3 : Int) (m : YS) : NL_Y_startTag_141 v1 v2 v3 m = itc (nb_Y_startTag_141 v1 v2 v3 m) (fun s => NL_Y_startTag_141 v1 v2 s m) := it_eq2 (fun s : Int => nb_Y_startTag_141 v1 v2 s m) (v3)
noncomputable def nb_Y_startTag_62 (v1 : Int) (v2 : Int) (v3 : Int) (m : YS) : Option ((Int) ⊕ (Int)) :=
  if 0 < v3 then
    ix v3 22 <|
    ix (m 73 v3) 120 <|
    if (m 46 (m 73 v3)) = 4 then
      some (.inr v3)
    else
      ix v3 22 <|
      ix (m 73 v3) 120 <|
      if (m 46 (m 73 v3)) = 3 then
        some (.inr v3)
      else
        ck (v3 + (-1)) <|
        some (.inl (v3 + (-1)))
  else
    some (.inr v3)
theorem fb_Y_startTag_62 {w y : Prop} {g : g_S} {n : NS} {m : YS} (hy : y) {xv1 : Int32} {v1 : Int} (ev1 : xv1 = Int32.ofInt v1) (rv1 : inR v1) {xv2 : Int32} {v2 : Int} (ev2 : xv2 = Int32.ofInt v2) (rv2 : inR v2) {xv3 : Int32} {v3 : Int} (ev3 : xv3 = Int32.ofInt v3) (rv3 : inR v3) (hR : RC w y g n m) : Rf (RS (fun a b => RI a b) (fun a b => RI a b)) (b_Y_startTag_62 1838 xv1 xv2 xv3 g) (nb_Y_startTag_62 v1 v2 v3 m) := by
  subst ev1
  subst ev2
  subst ev3
  unfold b_Y_startTag_62 nb_Y_startTag_62
  refine rf_lt (e_n 0) rfl (show inR 0 by decide) rv3 ?_ ?_
  · refine y_Q hR hy ya46.1 (by decide) ?_
    refine y_Q hR hy ya73.1 (by decide) ?_
    refine y_aI hR hy ya73 yl73 rfl rv3 (fun h4 h5 => ?_)
    refine y_aI hR hy ya46 yl46 rfl h5 (fun h6 h7 => ?_)
    refine rf_eq rfl (e_n 4) h7 (show inR 4 by decide) ?_ ?_
    · exact rf_ok (by exact ⟨rfl, rv3⟩)
    · refine y_Q hR hy ya46.1 (by decide) ?_
      refine y_Q hR hy ya73.1 (by decide) ?_
      refine y_aI hR hy ya73 yl73 rfl rv3 (fun h11 h12 => ?_)
      refine y_aI hR hy ya46 yl46 rfl h12 (fun h13 h14 => ?_)
      refine rf_eq rfl (e_n 3) h14 (show inR 3 by decide) ?_ ?_
      · exact rf_ok (by exact ⟨rfl, rv3⟩)
      · refine rf_ck (fun h16 => ?_)
        exact rf_ok (by exact ⟨(e_add rfl (e_m 1)), h16⟩)
  · exact rf_ok (by exact ⟨rfl, rv3⟩)
noncomputable def NL_Y_startTag_62 (v1 : Int) (v2 : Int) (v3 : Int) (m : YS) : Option (Int) :=
  it (fun s : Int => nb_Y_startTag_62 v1 v2 s m) (v3)
theorem fL_Y_startTag_62 {w y : Prop} {g : g_S} {n : NS} {m : YS} (hy : y) {xv1 : Int32} {v1 : Int} (ev1 : xv1 = Int32.ofInt v1) (rv1 : inR v1) {xv2 : Int32} {v2 : Int} (ev2 : xv2 = Int32.ofInt v2) (rv2 : inR v2) {xv3 : Int32} {v3 : Int} (ev3 : xv3 = Int32.ofInt v3) (rv3 : inR v3) (hR : RC w y g n m) : Rf (fun a b => RI a b) (L_Y_startTag_62 1838 xv1 xv2 xv3 g) (NL_Y_startTag_62 v1 v2 v3 m) := by
  subst ev1
  subst ev2
  subst ev3
  unfold L_Y_startTag_62 NL_Y_startTag_62
  refine rf_it (I := (fun a b => RI a b)) (fun s t h => ?_) ⟨rfl, rv3⟩
  exact fb_Y_startTag_62 hy rfl rv1 rfl rv2 h.1 h.2 hR
theorem NL_Y_startTag_62_eq (v1 : Int) (v2 : Int) (v3 : Int) (m : YS) : NL_Y_startTag_62 v1 v2 v3 m = itc (nb_Y_startTag_62 v1 v2 v3 m) (fun s => NL_Y_startTag_62 v1 v2 s m) := it_eq2 (fun s : Int => nb_Y_startTag_62 v1 v2 s m) (v3)
noncomputable def nb_Y_startTag_292 (v2 : Int) (v3 : Int) (v4 : Int) (v5 : Int) (m : YS) : Option ((Int × YS) ⊕ (YS)) :=
  if v5 < 8 then
    ck (4 * v3) <|
    ck ((4 * v3) + v4) <|
    ck (8 * ((4 * v3) + v4)) <|
    ck ((8 * ((4 * v3) + v4)) + v5) <|
    ck (8 * v4) <|
    ck ((8 * v4) + v5) <|
    ix ((8 * v4) + v5) 32 <|
    ix ((8 * ((4 * v3) + v4)) + v5) 3840 <|
    st (yw m 57 ((8 * ((4 * v3) + v4)) + v5) (m 81 ((8 * v4) + v5))) fun m13 =>
    ck (v5 + 1) <|
    some (.inl (v5 + 1, m13))
  else
    some (.inr m)
theorem fb_Y_startTag_292 {w y : Prop} {g : g_S} {n : NS} {m : YS} (hy : y) {xv2 : Int32} {v2 : Int} (ev2 : xv2 = Int32.ofInt v2) (rv2 : inR v2) {xv3 : Int32} {v3 : Int} (ev3 : xv3 = Int32.ofInt v3) (rv3 : inR v3) {xv4 : Int32} {v4 : Int} (ev4 : xv4 = Int32.ofInt v4) (rv4 : inR v4) {xv5 : Int32} {v5 : Int} (ev5 : xv5 = Int32.ofInt v5) (rv5 : inR v5) (hR : RC w y g n m) : Rf (RS (fun a b => RI a.1 b.1 ∧ RC w y a.2 n b.2) (fun a b => RC w y a n b)) (b_Y_startTag_292 1838 xv2 xv3 xv4 xv5 g) (nb_Y_startTag_292 v2 v3 v4 v5 m) := by
  subst ev2
  subst ev3
  subst ev4
  subst ev5
  unfold b_Y_startTag_292 nb_Y_startTag_292
  refine rf_lt rfl (e_n 8) rv5 (show inR 8 by decide) ?_ ?_
  · refine y_Q hR hy ya57.1 (by decide) ?_
    refine rf_ck (fun h3 => ?_)
    refine rf_ck (fun h4 => ?_)
    refine rf_ck (fun h5 => ?_)
    refine rf_ck (fun h6 => ?_)
    refine y_Q hR hy ya81.1 (by decide) ?_
    refine rf_ck (fun h8 => ?_)
    refine rf_ck (fun h9 => ?_)
    refine y_aB hR hy ya81 yl81 (e_add (e_mul (e_n 8) rfl) rfl) h9 (fun h10 h11 => ?_)
    refine y_sB hR hy ya57 yl57 (e_add (e_mul (e_n 8) (e_add (e_mul (e_n 4) rfl) rfl)) rfl) h6 rfl h11 (fun g15 m13 hR14 => ?_)
    refine rf_ck (fun h16 => ?_)
    exact rf_ok (by exact ⟨⟨(e_add rfl (e_n 1)), h16⟩, hR14⟩)
  · exact rf_ok (by exact hR)
noncomputable def NL_Y_startTag_292 (v2 : Int) (v3 : Int) (v4 : Int) (v5 : Int) (m : YS) : Option (YS) :=
  it (fun s : Int × YS => nb_Y_startTag_292 v2 v3 v4 s.1 s.2) (v5, m)
theorem fL_Y_startTag_292 {w y : Prop} {g : g_S} {n : NS} {m : YS} (hy : y) {xv2 : Int32} {v2 : Int} (ev2 : xv2 = Int32.ofInt v2) (rv2 : inR v2) {xv3 : Int32} {v3 : Int} (ev3 : xv3 = Int32.ofInt v3) (rv3 : inR v3) {xv4 : Int32} {v4 : Int} (ev4 : xv4 = Int32.ofInt v4) (rv4 : inR v4) {xv5 : Int32} {v5 : Int} (ev5 : xv5 = Int32.ofInt v5) (rv5 : inR v5) (hR : RC w y g n m) : Rf (fun a b => RC w y a n b) (L_Y_startTag_292 1838 xv2 xv3 xv4 xv5 g) (NL_Y_startTag_292 v2 v3 v4 v5 m) := by
  subst ev2
  subst ev3
  subst ev4
  subst ev5
  unfold L_Y_startTag_292 NL_Y_startTag_292
  refine rf_it (I := (fun a b => RI a.1 b.1 ∧ RC w y a.2 n b.2)) (fun s t h => ?_) ⟨⟨rfl, rv5⟩, hR⟩
  exact fb_Y_startTag_292 hy rfl rv2 rfl rv3 rfl rv4 h.1.1 h.1.2 h.2
theorem NL_Y_startTag_292_eq (v2 : Int) (v3 : Int) (v4 : Int) (v5 : Int) (m : YS) : NL_Y_startTag_292 v2 v3 v4 v5 m = itc (nb_Y_startTag_292 v2 v3 v4 v5 m) (fun s => NL_Y_startTag_292 v2 v3 v4 s.1 s.2) := it_eq2 (fun s : Int × YS => nb_Y_startTag_292 v2 v3 v4 s.1 s.2) (v5, m)
noncomputable def nb_Y_startTag_338 (v2 : Int) (v3 : Int) (v4 : Int) (v5 : Int) (m : YS) : Option ((Int × YS) ⊕ (YS)) :=
  if v5 < 60 then
    ck (4 * v3) <|
    ck ((4 * v3) + v4) <|
    ck (60 * ((4 * v3) + v4)) <|
    ck ((60 * ((4 * v3) + v4)) + v5) <|
    ck (60 * v4) <|
    ck ((60 * v4) + v5) <|
    ix ((60 * v4) + v5) 240 <|
    ix ((60 * ((4 * v3) + v4)) + v5) 28800 <|
    st (yw m 59 ((60 * ((4 * v3) + v4)) + v5) (m 83 ((60 * v4) + v5))) fun m13 =>
    ck (v5 + 1) <|
    some (.inl (v5 + 1, m13))
  else
    some (.inr m)
theorem fb_Y_startTag_338 {w y : Prop} {g : g_S} {n : NS} {m : YS} (hy : y) {xv2 : Int32} {v2 : Int} (ev2 : xv2 = Int32.ofInt v2) (rv2 : inR v2) {xv3 : Int32} {v3 : Int} (ev3 : xv3 = Int32.ofInt v3) (rv3 : inR v3) {xv4 : Int32} {v4 : Int} (ev4 : xv4 = Int32.ofInt v4) (rv4 : inR v4) {xv5 : Int32} {v5 : Int} (ev5 : xv5 = Int32.ofInt v5) (rv5 : inR v5) (hR : RC w y g n m) : Rf (RS (fun a b => RI a.1 b.1 ∧ RC w y a.2 n b.2) (fun a b => RC w y a n b)) (b_Y_startTag_338 1838 xv2 xv3 xv4 xv5 g) (nb_Y_startTag_338 v2 v3 v4 v5 m) := by
  subst ev2
  subst ev3
  subst ev4
  subst ev5
  unfold b_Y_startTag_338 nb_Y_startTag_338
  refine rf_lt rfl (e_n 60) rv5 (show inR 60 by decide) ?_ ?_
  · refine y_Q hR hy ya59.1 (by decide) ?_
    refine rf_ck (fun h3 => ?_)
    refine rf_ck (fun h4 => ?_)
    refine rf_ck (fun h5 => ?_)
    refine rf_ck (fun h6 => ?_)
    refine y_Q hR hy ya83.1 (by decide) ?_
    refine rf_ck (fun h8 => ?_)
    refine rf_ck (fun h9 => ?_)
    refine y_aB hR hy ya83 yl83 (e_add (e_mul (e_n 60) rfl) rfl) h9 (fun h10 h11 => ?_)
    refine y_sB hR hy ya59 yl59 (e_add (e_mul (e_n 60) (e_add (e_mul (e_n 4) rfl) rfl)) rfl) h6 rfl h11 (fun g15 m13 hR14 => ?_)
    refine rf_ck (fun h16 => ?_)
    exact rf_ok (by exact ⟨⟨(e_add rfl (e_n 1)), h16⟩, hR14⟩)
  · exact rf_ok (by exact hR)
noncomputable def NL_Y_startTag_338 (v2 : Int) (v3 : Int) (v4 : Int) (v5 : Int) (m : YS) : Option (YS) :=
  it (fun s : Int × YS => nb_Y_startTag_338 v2 v3 v4 s.1 s.2) (v5, m)
theorem fL_Y_startTag_338 {w y : Prop} {g : g_S} {n : NS} {m : YS} (hy : y) {xv2 : Int32} {v2 : Int} (ev2 : xv2 = Int32.ofInt v2) (rv2 : inR v2) {xv3 : Int32} {v3 : Int} (ev3 : xv3 = Int32.ofInt v3) (rv3 : inR v3) {xv4 : Int32} {v4 : Int} (ev4 : xv4 = Int32.ofInt v4) (rv4 : inR v4) {xv5 : Int32} {v5 : Int} (ev5 : xv5 = Int32.ofInt v5) (rv5 : inR v5) (hR : RC w y g n m) : Rf (fun a b => RC w y a n b) (L_Y_startTag_338 1838 xv2 xv3 xv4 xv5 g) (NL_Y_startTag_338 v2 v3 v4 v5 m) := by
  subst ev2
  subst ev3
  subst ev4
  subst ev5
  unfold L_Y_startTag_338 NL_Y_startTag_338
  refine rf_it (I := (fun a b => RI a.1 b.1 ∧ RC w y a.2 n b.2)) (fun s t h => ?_) ⟨⟨rfl, rv5⟩, hR⟩
  exact fb_Y_startTag_338 hy rfl rv2 rfl rv3 rfl rv4 h.1.1 h.1.2 h.2
theorem NL_Y_startTag_338_eq (v2 : Int) (v3 : Int) (v4 : Int) (v5 : Int) (m : YS) : NL_Y_startTag_338 v2 v3 v4 v5 m = itc (nb_Y_startTag_338 v2 v3 v4 v5 m) (fun s => NL_Y_startTag_338 v2 v3 v4 s.1 s.2) := it_eq2 (fun s : Int × YS => nb_Y_startTag_338 v2 v3 v4 s.1 s.2) (v5, m)
noncomputable def nb_Y_startTag_244 (v2 : Int) (v3 : Int) (v4 : Int) (m : YS) : Option ((Int × YS) ⊕ (YS)) :=
  if v4 < (m 80 0) then
    ck (4 * v3) <|
    ck ((4 * v3) + v4) <|
    ix v4 4 <|
    ix ((4 * v3) + v4) 480 <|
    st (yw m 58 ((4 * v3) + v4) (m 82 v4)) fun m10 =>
    ck (4 * v3) <|
    ck ((4 * v3) + v4) <|
    ix v4 4 <|
    ix ((4 * v3) + v4) 480 <|
    st (yw m10 60 ((4 * v3) + v4) (m10 84 v4)) fun m20 =>
    (NL_Y_startTag_292 v2 v3 v4 0 m20).bind <| fun m23 =>
    (NL_Y_startTag_338 v2 v3 v4 0 m23).bind <| fun m26 =>
    ck (v4 + 1) <|
    some (.inl (v4 + 1, m26))
  else
    some (.inr m)
theorem fb_Y_startTag_244 {w y : Prop} {g : g_S} {n : NS} {m : YS} (hy : y) {xv2 : Int32} {v2 : Int} (ev2 : xv2 = Int32.ofInt v2) (rv2 : inR v2) {xv3 : Int32} {v3 : Int} (ev3 : xv3 = Int32.ofInt v3) (rv3 : inR v3) {xv4 : Int32} {v4 : Int} (ev4 : xv4 = Int32.ofInt v4) (rv4 : inR v4) (hR : RC w y g n m) : Rf (RS (fun a b => RI a.1 b.1 ∧ RC w y a.2 n b.2) (fun a b => RC w y a n b)) (b_Y_startTag_244 1838 xv2 xv3 xv4 g) (nb_Y_startTag_244 v2 v3 v4 m) := by
  subst ev2
  subst ev3
  subst ev4
  unfold b_Y_startTag_244 nb_Y_startTag_244
  refine y_I hR hy yk80 yt80 (fun h1 => ?_)
  refine rf_lt rfl rfl rv4 h1 ?_ ?_
  · refine y_Q hR hy ya58.1 (by decide) ?_
    refine rf_ck (fun h4 => ?_)
    refine rf_ck (fun h5 => ?_)
    refine y_Q hR hy ya82.1 (by decide) ?_
    refine y_aI hR hy ya82 yl82 rfl rv4 (fun h7 h8 => ?_)
    refine y_sI hR hy ya58 yl58 (e_add (e_mul (e_n 4) rfl) rfl) h5 rfl h8 (fun g12 m10 hR11 => ?_)
    refine y_Q hR11 hy ya60.1 (by decide) ?_
    refine rf_ck (fun h14 => ?_)
    refine rf_ck (fun h15 => ?_)
    refine y_Q hR11 hy ya84.1 (by decide) ?_
    refine y_aI hR11 hy ya84 yl84 rfl rv4 (fun h17 h18 => ?_)
    refine y_sI hR11 hy ya60 yl60 (e_add (e_mul (e_n 4) rfl) rfl) h15 rfl h18 (fun g22 m20 hR21 => ?_)
    refine rf_bind (fL_Y_startTag_292 hy rfl rv2 rfl rv3 rfl rv4 (e_n 0) (show inR 0 by decide) hR21) (fun a24 m23 h => ?_)
    have hR25 : RC w y a24 n m23 := h
    refine rf_bind (fL_Y_startTag_338 hy rfl rv2 rfl rv3 rfl rv4 (e_n 0) (show inR 0 by decide) hR25) (fun a27 m26 h => ?_)
    have hR28 : RC w y a27 n m26 := h
    refine rf_ck (fun h29 => ?_)
    exact rf_ok (by exact ⟨⟨(e_add rfl (e_n 1)), h29⟩, hR28⟩)
  · exact rf_ok (by exact hR)
noncomputable def NL_Y_startTag_244 (v2 : Int) (v3 : Int) (v4 : Int) (m : YS) : Option (YS) :=
  it (fun s : Int × YS => nb_Y_startTag_244 v2 v3 s.1 s.2) (v4, m)
theorem fL_Y_startTag_244 {w y : Prop} {g : g_S} {n : NS} {m : YS} (hy : y) {xv2 : Int32} {v2 : Int} (ev2 : xv2 = Int32.ofInt v2) (rv2 : inR v2) {xv3 : Int32} {v3 : Int} (ev3 : xv3 = Int32.ofInt v3) (rv3 : inR v3) {xv4 : Int32} {v4 : Int} (ev4 : xv4 = Int32.ofInt v4) (rv4 : inR v4) (hR : RC w y g n m) : Rf (fun a b => RC w y a n b) (L_Y_startTag_244 1838 xv2 xv3 xv4 g) (NL_Y_startTag_244 v2 v3 v4 m) := by
  subst ev2
  subst ev3
  subst ev4
  unfold L_Y_startTag_244 NL_Y_startTag_244
  refine rf_it (I := (fun a b => RI a.1 b.1 ∧ RC w y a.2 n b.2)) (fun s t h => ?_) ⟨⟨rfl, rv4⟩, hR⟩
  exact fb_Y_startTag_244 hy rfl rv2 rfl rv3 h.1.1 h.1.2 h.2
theorem NL_Y_startTag_244_eq (v2 : Int) (v3 : Int) (v4 : Int) (m : YS) : NL_Y_startTag_244 v2 v3 v4 m = itc (nb_Y_startTag_244 v2 v3 v4 m) (fun s => NL_Y_startTag_244 v2 v3 s.1 s.2) := it_eq2 (fun s : Int × YS => nb_Y_startTag_244 v2 v3 s.1 s.2) (v4, m)
noncomputable def nk_Y_startTag_189 (v1 : Int) (v2 : Int) (m : YS) : Option (YS) :=
  ck ((m 74 0) - 1) <|
  ix ((m 74 0) - 1) 22 <|
  (N_Y_fresh (m 73 ((m 74 0) - 1)) m).bind <| u2 fun z7 m10 =>
  if z7 = (-1) then
    (N_Y_tellFault 6 v1 m10).bind fun m15 =>
    some m15
  else
    (N_Y_element z7 v2 m10).bind fun m20 =>
    ix z7 120 <|
    st (yw m20 67 z7 v1) fun m25 =>
    ix z7 120 <|
    st (yw m25 56 z7 (m25 80 0)) fun m31 =>
    (NL_Y_startTag_244 v2 z7 0 m31).bind <| fun m34 =>
    (N_Y_settleInput z7 m34).bind fun m38 =>
    (N_Y_isEmptyTag v2 m38).bind fun z42 =>
    if z42 = 0 then
      ix (m38 74 0) 22 <|
      st (yw m38 73 (m38 74 0) z7) fun m49 =>
      ck ((m49 74 0) + 1) <|
      st (yw m49 74 0 ((m49 74 0) + 1)) fun m55 =>
      some m55
    else
      some m38
theorem fk_Y_startTag_189 {w y : Prop} {g : g_S} {n : NS} {m : YS} (hy : y) {xv1 : Int32} {v1 : Int} (ev1 : xv1 = Int32.ofInt v1) (rv1 : inR v1) {xv2 : Int32} {v2 : Int} (ev2 : xv2 = Int32.ofInt v2) (rv2 : inR v2) (hR : RC w y g n m) : Rf (fun a b => RC w y a n b) (k_Y_startTag_189 1838 xv1 xv2 g) (nk_Y_startTag_189 v1 v2 m) := by
  subst ev1
  subst ev2
  unfold k_Y_startTag_189 nk_Y_startTag_189
  refine y_Q hR hy ya73.1 (by decide) ?_
  refine y_I hR hy yk74 yt74 (fun h2 => ?_)
  refine rf_ck (fun h3 => ?_)
  refine y_aI hR hy ya73 yl73 (e_sub rfl (e_n 1)) h3 (fun h4 h5 => ?_)
  refine v_c2 (y_gt hR hy) ?_
  refine rf_c2 (f_Y_fresh hy rfl h5 hR) (fun a9 g12 b h => ?_)
  obtain ⟨z7, m10⟩ := b
  refine rf_v2 ?_
  obtain ⟨rfl, r8⟩ := (show RI a9 z7 from h.1)
  have hR11 : RC w y g12 n m10 := h.2
  refine rf_eq rfl (e_m 1) r8 (show inR (-1) by decide) ?_ ?_
  · refine v_c (y_gt hR11 hy) ?_
    refine rf_bind (f_Y_tellFault hy (e_n 6) (show inR 6 by decide) rfl rv1 hR11) (fun g17 m15 hR16 => ?_)
    exact rf_ok (by exact hR16)
  · refine v_c (y_gt hR11 hy) ?_
    refine rf_bind (f_Y_element hy rfl r8 rfl rv2 hR11) (fun g22 m20 hR21 => ?_)
    refine y_Q hR21 hy ya67.1 (by decide) ?_
    refine y_sI hR21 hy ya67 yl67 rfl r8 rfl rv1 (fun g27 m25 hR26 => ?_)
    refine y_Q hR26 hy ya56.1 (by decide) ?_
    refine y_I hR26 hy yk80 yt80 (fun h29 => ?_)
    refine y_sI hR26 hy ya56 yl56 rfl r8 rfl h29 (fun g33 m31 hR32 => ?_)
    refine rf_bind (fL_Y_startTag_244 hy rfl rv2 rfl r8 (e_n 0) (show inR 0 by decide) hR32) (fun a35 m34 h => ?_)
    have hR36 : RC w y a35 n m34 := h
    refine v_c (y_gt hR36 hy) ?_
    refine rf_bind (f_Y_settleInput hy rfl r8 hR36) (fun g40 m38 hR39 => ?_)
    refine rf_bind (f_Y_isEmptyTag hy rfl rv2 hR39) (fun a44 z42 h => ?_)
    obtain ⟨rfl, r43⟩ := h
    refine rf_eq rfl (e_n 0) (inZ.r r43) (show inR 0 by decide) ?_ ?_
    · refine y_Q hR39 hy ya73.1 (by decide) ?_
      refine y_I hR39 hy yk74 yt74 (fun h47 => ?_)
      refine y_sI hR39 hy ya73 yl73 rfl h47 rfl r8 (fun g51 m49 hR50 => ?_)
      refine y_I hR50 hy yk74 yt74 (fun h52 => ?_)
      refine rf_ck (fun h53 => ?_)
      refine y_pI hR50 hy yk74 ⟨yt74, yz74⟩ (e_add rfl (e_n 1)) h53 (fun g57 m55 hR56 => ?_)
      exact rf_ok (by exact hR56)
    · exact rf_ok (by exact hR39)
noncomputable def nk_Y_startTag_167 (v1 : Int) (v2 : Int) (v3 : Int) (m : YS) : Option (YS) :=
  if 0 < v3 then
    ix v3 22 <|
    (N_Y_closeTo v3 (-1) (m 73 v3) m).bind fun m6 =>
    (N_Y_tellFault 5 v1 m6).bind fun m10 =>
    nk_Y_startTag_189 v1 v2 m10
  else
    nk_Y_startTag_189 v1 v2 m
theorem fk_Y_startTag_167 {w y : Prop} {g : g_S} {n : NS} {m : YS} (hy : y) {xv1 : Int32} {v1 : Int} (ev1 : xv1 = Int32.ofInt v1) (rv1 : inR v1) {xv2 : Int32} {v2 : Int} (ev2 : xv2 = Int32.ofInt v2) (rv2 : inR v2) {xv3 : Int32} {v3 : Int} (ev3 : xv3 = Int32.ofInt v3) (rv3 : inR v3) (hR : RC w y g n m) : Rf (fun a b => RC w y a n b) (k_Y_startTag_167 1838 xv1 xv2 xv3 g) (nk_Y_startTag_167 v1 v2 v3 m) := by
  subst ev1
  subst ev2
  subst ev3
  unfold k_Y_startTag_167 nk_Y_startTag_167
  refine rf_lt (e_n 0) rfl (show inR 0 by decide) rv3 ?_ ?_
  · refine y_Q hR hy ya73.1 (by decide) ?_
    refine y_aI hR hy ya73 yl73 rfl rv3 (fun h3 h4 => ?_)
    refine v_c (y_gt hR hy) ?_
    refine rf_bind (f_Y_closeTo hy rfl rv3 (e_m 1) (show inR (-1) by decide) rfl h4 hR) (fun g8 m6 hR7 => ?_)
    refine v_c (y_gt hR7 hy) ?_
    refine rf_bind (f_Y_tellFault hy (e_n 5) (show inR 5 by decide) rfl rv1 hR7) (fun g12 m10 hR11 => ?_)
    exact fk_Y_startTag_189 hy rfl rv1 rfl rv2 hR11
  · exact fk_Y_startTag_189 hy rfl rv1 rfl rv2 hR
noncomputable def nk_Y_startTag_128 (v1 : Int) (v2 : Int) (m : YS) : Option (YS) :=
  if v2 = 7 then
    ck ((m 74 0) - 1) <|
    (NL_Y_startTag_141 v1 v2 ((m 74 0) - 1) m).bind <| fun z4 =>
    nk_Y_startTag_167 v1 v2 z4 m
  else
    nk_Y_startTag_189 v1 v2 m
theorem fk_Y_startTag_128 {w y : Prop} {g : g_S} {n : NS} {m : YS} (hy : y) {xv1 : Int32} {v1 : Int} (ev1 : xv1 = Int32.ofInt v1) (rv1 : inR v1) {xv2 : Int32} {v2 : Int} (ev2 : xv2 = Int32.ofInt v2) (rv2 : inR v2) (hR : RC w y g n m) : Rf (fun a b => RC w y a n b) (k_Y_startTag_128 1838 xv1 xv2 g) (nk_Y_startTag_128 v1 v2 m) := by
  subst ev1
  subst ev2
  unfold k_Y_startTag_128 nk_Y_startTag_128
  refine rf_eq rfl (e_n 7) rv2 (show inR 7 by decide) ?_ ?_
  · refine y_I hR hy yk74 yt74 (fun h2 => ?_)
    refine rf_ck (fun h3 => ?_)
    refine rf_bind (fL_Y_startTag_141 hy rfl rv1 rfl rv2 (e_sub rfl (e_n 1)) h3 hR) (fun a5 z4 h => ?_)
    obtain ⟨rfl, r6⟩ := (show RI a5 z4 from h)
    exact fk_Y_startTag_167 hy rfl rv1 rfl rv2 rfl r6 hR
  · exact fk_Y_startTag_189 hy rfl rv1 rfl rv2 hR
noncomputable def nk_Y_startTag_102 (v1 : Int) (v2 : Int) (v3 : Int) (m : YS) : Option (YS) :=
  if 0 < v3 then
    ix v3 22 <|
    ix (m 73 v3) 120 <|
    if (m 46 (m 73 v3)) = 4 then
      (N_Y_closeTo v3 (-1) (-1) m).bind fun m10 =>
      nk_Y_startTag_128 v1 v2 m10
    else
      nk_Y_startTag_128 v1 v2 m
  else
    nk_Y_startTag_128 v1 v2 m
theorem fk_Y_startTag_102 {w y : Prop} {g : g_S} {n : NS} {m : YS} (hy : y) {xv1 : Int32} {v1 : Int} (ev1 : xv1 = Int32.ofInt v1) (rv1 : inR v1) {xv2 : Int32} {v2 : Int} (ev2 : xv2 = Int32.ofInt v2) (rv2 : inR v2) {xv3 : Int32} {v3 : Int} (ev3 : xv3 = Int32.ofInt v3) (rv3 : inR v3) (hR : RC w y g n m) : Rf (fun a b => RC w y a n b) (k_Y_startTag_102 1838 xv1 xv2 xv3 g) (nk_Y_startTag_102 v1 v2 v3 m) := by
  subst ev1
  subst ev2
  subst ev3
  unfold k_Y_startTag_102 nk_Y_startTag_102
  refine rf_lt (e_n 0) rfl (show inR 0 by decide) rv3 ?_ ?_
  · refine y_Q hR hy ya46.1 (by decide) ?_
    refine y_Q hR hy ya73.1 (by decide) ?_
    refine y_aI hR hy ya73 yl73 rfl rv3 (fun h4 h5 => ?_)
    refine y_aI hR hy ya46 yl46 rfl h5 (fun h6 h7 => ?_)
    refine rf_eq rfl (e_n 4) h7 (show inR 4 by decide) ?_ ?_
    · refine v_c (y_gt hR hy) ?_
      refine rf_bind (f_Y_closeTo hy rfl rv3 (e_m 1) (show inR (-1) by decide) (e_m 1) (show inR (-1) by decide) hR) (fun g12 m10 hR11 => ?_)
      exact fk_Y_startTag_128 hy rfl rv1 rfl rv2 hR11
    · exact fk_Y_startTag_128 hy rfl rv1 rfl rv2 hR
  · exact fk_Y_startTag_128 hy rfl rv1 rfl rv2 hR
noncomputable def nk_Y_startTag_50 (v1 : Int) (v2 : Int) (m : YS) : Option (YS) :=
  if v2 = 4 then
    ck ((m 74 0) - 1) <|
    (NL_Y_startTag_62 v1 v2 ((m 74 0) - 1) m).bind <| fun z4 =>
    nk_Y_startTag_102 v1 v2 z4 m
  else
    nk_Y_startTag_128 v1 v2 m
theorem fk_Y_startTag_50 {w y : Prop} {g : g_S} {n : NS} {m : YS} (hy : y) {xv1 : Int32} {v1 : Int} (ev1 : xv1 = Int32.ofInt v1) (rv1 : inR v1) {xv2 : Int32} {v2 : Int} (ev2 : xv2 = Int32.ofInt v2) (rv2 : inR v2) (hR : RC w y g n m) : Rf (fun a b => RC w y a n b) (k_Y_startTag_50 1838 xv1 xv2 g) (nk_Y_startTag_50 v1 v2 m) := by
  subst ev1
  subst ev2
  unfold k_Y_startTag_50 nk_Y_startTag_50
  refine rf_eq rfl (e_n 4) rv2 (show inR 4 by decide) ?_ ?_
  · refine y_I hR hy yk74 yt74 (fun h2 => ?_)
    refine rf_ck (fun h3 => ?_)
    refine rf_bind (fL_Y_startTag_62 hy rfl rv1 rfl rv2 (e_sub rfl (e_n 1)) h3 hR) (fun a5 z4 h => ?_)
    obtain ⟨rfl, r6⟩ := (show RI a5 z4 from h)
    exact fk_Y_startTag_102 hy rfl rv1 rfl rv2 rfl r6 hR
  · exact fk_Y_startTag_128 hy rfl rv1 rfl rv2 hR
noncomputable def nk_Y_startTag_39 (v1 : Int) (v2 : Int) (v3 : Int) (m : YS) : Option (YS) :=
  if 0 < v3 then
    (N_Y_closeTo v3 (-1) (-1) m).bind fun m3 =>
    nk_Y_startTag_50 v1 v2 m3
  else
    nk_Y_startTag_50 v1 v2 m
theorem fk_Y_startTag_39 {w y : Prop} {g : g_S} {n : NS} {m : YS} (hy : y) {xv1 : Int32} {v1 : Int} (ev1 : xv1 = Int32.ofInt v1) (rv1 : inR v1) {xv2 : Int32} {v2 : Int} (ev2 : xv2 = Int32.ofInt v2) (rv2 : inR v2) {xv3 : Int32} {v3 : Int} (ev3 : xv3 = Int32.ofInt v3) (rv3 : inR v3) (hR : RC w y g n m) : Rf (fun a b => RC w y a n b) (k_Y_startTag_39 1838 xv1 xv2 xv3 g) (nk_Y_startTag_39 v1 v2 v3 m) := by
  subst ev1
  subst ev2
  subst ev3
  unfold k_Y_startTag_39 nk_Y_startTag_39
  refine rf_lt (e_n 0) rfl (show inR 0 by decide) rv3 ?_ ?_
  · refine v_c (y_gt hR hy) ?_
    refine rf_bind (f_Y_closeTo hy rfl rv3 (e_m 1) (show inR (-1) by decide) (e_m 1) (show inR (-1) by decide) hR) (fun g5 m3 hR4 => ?_)
    exact fk_Y_startTag_50 hy rfl rv1 rfl rv2 hR4
  · exact fk_Y_startTag_50 hy rfl rv1 rfl rv2 hR
noncomputable def N_Y_startTag (v1 : Int) (v2 : Int) (m : YS) : Option (YS) :=
  (N_Y_isBlockTag v2 m).bind fun z2 =>
  if z2 = 0 then
    nk_Y_startTag_50 v1 v2 m
  else
    ck ((m 74 0) - 1) <|
    (NL_Y_startTag_14 v1 v2 ((m 74 0) - 1) m).bind <| fun z8 =>
    nk_Y_startTag_39 v1 v2 z8 m
theorem f_Y_startTag {w y : Prop} {g : g_S} {n : NS} {m : YS} (hy : y) {xv1 : Int32} {v1 : Int} (ev1 : xv1 = Int32.ofInt v1) (rv1 : inR v1) {xv2 : Int32} {v2 : Int} (ev2 : xv2 = Int32.ofInt v2) (rv2 : inR v2) (hR : RC w y g n m) : Rf (fun a b => RC w y a n b) (M_Y_startTag 1838 xv1 xv2 g) (N_Y_startTag v1 v2 m) := by
  subst ev1
  subst ev2
  unfold M_Y_startTag N_Y_startTag
  refine rf_bind (f_Y_isBlockTag hy rfl rv2 hR) (fun a4 z2 h => ?_)
  obtain ⟨rfl, r3⟩ := h
  refine rf_eq rfl (e_n 0) (inZ.r r3) (show inR 0 by decide) ?_ ?_
  · exact fk_Y_startTag_50 hy rfl rv1 rfl rv2 hR
  · refine y_I hR hy yk74 yt74 (fun h6 => ?_)
    refine rf_ck (fun h7 => ?_)
    refine rf_bind (fL_Y_startTag_14 hy rfl rv1 rfl rv2 (e_sub rfl (e_n 1)) h7 hR) (fun a9 z8 h => ?_)
    obtain ⟨rfl, r10⟩ := (show RI a9 z8 from h)
    exact fk_Y_startTag_39 hy rfl rv1 rfl rv2 rfl r10 hR
