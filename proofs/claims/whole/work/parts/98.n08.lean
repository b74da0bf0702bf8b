/-! methods on numbers, group 8 -/
noncomputable def nb_Y_readTag_259 (v1 : Int) (v3 : Int) (v5 : Int) (v6 : Int) (m : YS) : Option ((Int × YS) ⊕ (YS)) :=
  if v6 < (m 85 0) then
    ix v6 2000 <|
    (N_Y_tellFault 2 (m 86 v6) m).bind fun m7 =>
    ck (v6 + 1) <|
    some (.inl (v6 + 1, m7))
  else
    some (.inr m)
theorem fb_Y_readTag_259 {w y : Prop} {g : g_S} {n : NS} {m : YS} (hy : y) {xv1 : Int32} {v1 : Int} (ev1 : xv1 = Int32.ofInt v1) (rv1 : inR v1) {xv3 : Int32} {v3 : Int} (ev3 : xv3 = Int32.ofInt v3) (rv3 : inR v3) {xv5 : Int32} {v5 : Int} (ev5 : xv5 = Int32.ofInt v5) (rv5 : inR v5) {xv6 : Int32} {v6 : Int} (ev6 : xv6 = Int32.ofInt v6) (rv6 : inR v6) (hR : RC w y g n m) : Rf (RS (fun a b => RI a.1 b.1 ∧ RC w y a.2 n b.2) (fun a b => RC w y a n b)) (b_Y_readTag_259 1838 xv1 xv3 xv5 xv6 g) (nb_Y_readTag_259 v1 v3 v5 v6 m) := by
  subst ev1
  subst ev3
  subst ev5
  subst ev6
  unfold b_Y_readTag_259 nb_Y_readTag_259
  refine y_I hR hy yk85 yt85 (fun h1 => ?_)
  refine rf_lt rfl rfl rv6 h1 ?_ ?_
  · refine y_Q hR hy ya86.1 (by decide) ?_
    refine y_aI hR hy ya86 yl86 rfl rv6 (fun h4 h5 => ?_)
    refine v_c (y_gt hR hy) ?_
    refine rf_bind (f_Y_tellFault hy (e_n 2) (show inR 2 by decide) rfl h5 hR) (fun g9 m7 hR8 => ?_)
    refine rf_ck (fun h10 => ?_)
    exact rf_ok (by exact ⟨⟨(e_add rfl (e_n 1)), h10⟩, hR8⟩)
  · exact rf_ok (by exact hR)
noncomputable def NL_Y_readTag_259 (v1 : Int) (v3 : Int) (v5 : Int) (v6 : Int) (m : YS) : Option (YS) :=
  it (fun s : Int × YS => nb_Y_readTag_259 v1 v3 v5 s.1 s.2) (v6, m)
theorem fL_Y_readTag_259 {w y : Prop} {g : g_S} {n : NS} {m : YS} (hy : y) {xv1 : Int32} {v1 : Int} (ev1 : xv1 = Int32.ofInt v1) (rv1 : inR v1) {xv3 : Int32} {v3 : Int} (ev3 : xv3 = Int32.ofInt v3) (rv3 : inR v3) {xv5 : Int32} {v5 : Int} (ev5 : xv5 = Int32.ofInt v5) (rv5 : inR v5) {xv6 : Int32} {v6 : Int} (ev6 : xv6 = Int32.ofInt v6) (rv6 : inR v6) (hR : RC w y g n m) : Rf (fun a b => RC w y a n b) (L_Y_readTag_259 1838 xv1 xv3 xv5 xv6 g) (NL_Y_readTag_259 v1 v3 v5 v6 m) := by
  subst ev1
  subst ev3
  subst ev5
  subst ev6
  unfold L_Y_readTag_259 NL_Y_readTag_259
  refine rf_it (I := (fun a b => RI a.1 b.1 ∧ RC w y a.2 n b.2)) (fun s t h => ?_) ⟨⟨rfl, rv6⟩, hR⟩
  exact fb_Y_readTag_259 hy rfl rv1 rfl rv3 rfl rv5 h.1.1 h.1.2 h.2
theorem NL_Y_readTag_259_eq (v1 : Int) (v3 : Int) (v5 : Int) (v6 : Int) (m : YS) : NL_Y_readTag_259 v1 v3 v5 v6 m = itc (nb_Y_readTag_259 v1 v3 v5 v6 m) (fun s => NL_Y_readTag_259 v1 v3 v5 s.1 s.2) := it_eq2 (fun s : Int × YS => nb_Y_readTag_259 v1 v3 v5 s.1 s.2) (v6, m)
noncomputable def nb_Y_readTag_132 (v1 : Int) (v2 : Int) (v3 : Int) (m : YS) : Option ((Int) ⊕ (Int)) :=
  if v3 < (m 76 0) then
    ix v3 2000 <|
    (N_Y_isBlank (m 75 v3) m).bind fun z7 =>
    if z7 = 0 then
      ix v3 2000 <|
      if (m 75 v3) = 47 then
        ck (v3 + 1) <|
        some (.inl (v3 + 1))
      else
        some (.inr v3)
    else
      ck (v3 + 1) <|
      some (.inl (v3 + 1))
  else
    some (.inr v3)
theorem fb_Y_readTag_132 {w y : Prop} {g : g_S} {n : NS} {m : YS} (hy : y) {xv1 : Int32} {v1 : Int} (ev1 : xv1 = Int32.ofInt v1) (rv1 : inR v1) {xv2 : Int32} {v2 : Int} (ev2 : xv2 = Int32.ofInt v2) (rv2 : inR v2) {xv3 : Int32} {v3 : Int} (ev3 : xv3 = Int32.ofInt v3) (rv3 : inR v3) (hR : RC w y g n m) : Rf (RS (fun a b => RI a b) (fun a b => RI a b)) (b_Y_readTag_132 1838 xv1 xv2 xv3 g) (nb_Y_readTag_132 v1 v2 v3 m) := by
  subst ev1
  subst ev2
  subst ev3
  unfold b_Y_readTag_132 nb_Y_readTag_132
  refine y_I hR hy yk76 yt76 (fun h1 => ?_)
  refine rf_lt rfl rfl rv3 h1 ?_ ?_
  · refine y_Q hR hy ya75.1 (by decide) ?_
    refine y_aB hR hy ya75 yl75 rfl rv3 (fun h4 h5 => ?_)
    refine rf_bind (f_Y_isBlank hy rfl (inB.r h5) hR) (fun a9 z7 h => ?_)
    obtain ⟨rfl, r8⟩ := h
    refine rf_eq rfl (e_n 0) (inZ.r r8) (show inR 0 by decide) ?_ ?_
    · refine y_Q hR hy ya75.1 (by decide) ?_
      refine y_aB hR hy ya75 yl75 rfl rv3 (fun h12 h13 => ?_)
      refine rf_eq rfl (e_n 47) (inB.r h13) (show inR 47 by decide) ?_ ?_
      · refine rf_ck (fun h15 => ?_)
        exact rf_ok (by exact ⟨(e_add rfl (e_n 1)), h15⟩)
      · exact rf_ok (by exact ⟨rfl, rv3⟩)
    · refine rf_ck (fun h16 => ?_)
      exact rf_ok (by exact ⟨(e_add rfl (e_n 1)), h16⟩)
  · exact rf_ok (by exact ⟨rfl, rv3⟩)
noncomputable def NL_Y_readTag_132 (v1 : Int) (v2 : Int) (v3 : Int) (m : YS) : Option (Int) :=
  it (fun s : Int => nb_Y_readTag_132 v1 v2 s m) (v3)
theorem fL_Y_readTag_132 {w y : Prop} {g : g_S} {n : NS} {m : YS} (hy : y) {xv1 : Int32} {v1 : Int} (ev1 : xv1 = Int32.ofInt v1) (rv1 : inR v1) {xv2 : Int32} {v2 : Int} (ev2 : xv2 = Int32.ofInt v2) (rv2 : inR v2) {xv3 : Int32} {v3 : Int} (ev3 : xv3 = Int32.ofInt v3) (rv3 : inR v3) (hR : RC w y g n m) : Rf (fun a b => RI a b) (L_Y_readTag_132 1838 xv1 xv2 xv3 g) (NL_Y_readTag_132 v1 v2 v3 m) := by
  subst ev1
  subst ev2
  subst ev3
  unfold L_Y_readTag_132 NL_Y_readTag_132
  refine rf_it (I := (fun a b => RI a b)) (fun s t h => ?_) ⟨rfl, rv3⟩
  exact fb_Y_readTag_132 hy rfl rv1 rfl rv2 h.1 h.2 hR
theorem NL_Y_readTag_132_eq (v1 : Int) (v2 : Int) (v3 : Int) (m : YS) : NL_Y_readTag_132 v1 v2 v3 m = itc (nb_Y_readTag_132 v1 v2 v3 m) (fun s => NL_Y_readTag_132 v1 v2 s m) := it_eq2 (fun s : Int => nb_Y_readTag_132 v1 v2 s m) (v3)
noncomputable def nk_Y_readTag_70 (v1 : Int) (v2 : Int) (v3 : Int) (m : YS) : Option ((Int × YS) ⊕ (Int × YS)) :=
  if (m 79 0) < 8 then
    ix v3 2000 <|
    (N_Y_small (m 75 v3) m).bind fun z9 =>
    ix (m 79 0) 8 <|
    st (yw m 78 (m 79 0) (Int.bmod z9 256)) fun m13 =>
    ck ((m13 79 0) + 1) <|
    st (yw m13 79 0 ((m13 79 0) + 1)) fun m19 =>
    ck (v3 + 1) <|
    some (.inl (v3 + 1, m19))
  else
    ck (v3 + 1) <|
    some (.inl (v3 + 1, m))
theorem fk_Y_readTag_70 {w y : Prop} {g : g_S} {n : NS} {m : YS} (hy : y) {xv1 : Int32} {v1 : Int} (ev1 : xv1 = Int32.ofInt v1) (rv1 : inR v1) {xv2 : Int32} {v2 : Int} (ev2 : xv2 = Int32.ofInt v2) (rv2 : inR v2) {xv3 : Int32} {v3 : Int} (ev3 : xv3 = Int32.ofInt v3) (rv3 : inR v3) (hR : RC w y g n m) : Rf (RS (fun a b => RI a.1 b.1 ∧ RC w y a.2 n b.2) (fun a b => RI a.1 b.1 ∧ RC w y a.2 n b.2)) (k_Y_readTag_70 1838 xv1 xv2 xv3 g) (nk_Y_readTag_70 v1 v2 v3 m) := by
  subst ev1
  subst ev2
  subst ev3
  unfold k_Y_readTag_70 nk_Y_readTag_70
  refine y_I hR hy yk79 yt79 (fun h1 => ?_)
  refine rf_lt rfl (e_n 8) h1 (show inR 8 by decide) ?_ ?_
  · refine y_Q hR hy ya78.1 (by decide) ?_
    refine y_I hR hy yk79 yt79 (fun h4 => ?_)
    refine y_Q hR hy ya75.1 (by decide) ?_
    refine y_aB hR hy ya75 yl75 rfl rv3 (fun h6 h7 => ?_)
    refine rf_bind (f_Y_small hy rfl (inB.r h7) hR) (fun a11 z9 h => ?_)
    obtain ⟨rfl, r10⟩ := h
    refine y_sB hR hy ya78 yl78 rfl h4 (e_b rfl) b_b (fun g15 m13 hR14 => ?_)
    refine y_I hR14 hy yk79 yt79 (fun h16 => ?_)
    refine rf_ck (fun h17 => ?_)
    refine y_pI hR14 hy yk79 ⟨yt79, yz79⟩ (e_add rfl (e_n 1)) h17 (fun g21 m19 hR20 => ?_)
    refine rf_ck (fun h22 => ?_)
    exact rf_ok (by exact ⟨⟨(e_add rfl (e_n 1)), h22⟩, hR20⟩)
  · refine rf_ck (fun h23 => ?_)
    exact rf_ok (by exact ⟨⟨(e_add rfl (e_n 1)), h23⟩, hR⟩)
noncomputable def nb_Y_readTag_38 (v1 : Int) (v2 : Int) (v3 : Int) (m : YS) : Option ((Int × YS) ⊕ (Int × YS)) :=
  if v3 < (m 76 0) then
    ix v3 2000 <|
    (N_Y_isLetter (m 75 v3) m).bind fun z7 =>
    if z7 = 0 then
      ix v3 2000 <|
      (N_Y_isDigit (m 75 v3) m).bind fun z15 =>
      if z15 = 0 then
        some (.inr (v3, m))
      else
        nk_Y_readTag_70 v1 v2 v3 m
    else
      nk_Y_readTag_70 v1 v2 v3 m
  else
    some (.inr (v3, m))
theorem fb_Y_readTag_38 {w y : Prop} {g : g_S} {n : NS} {m : YS} (hy : y) {xv1 : Int32} {v1 : Int} (ev1 : xv1 = Int32.ofInt v1) (rv1 : inR v1) {xv2 : Int32} {v2 : Int} (ev2 : xv2 = Int32.ofInt v2) (rv2 : inR v2) {xv3 : Int32} {v3 : Int} (ev3 : xv3 = Int32.ofInt v3) (rv3 : inR v3) (hR : RC w y g n m) : Rf (RS (fun a b => RI a.1 b.1 ∧ RC w y a.2 n b.2) (fun a b => RI a.1 b.1 ∧ RC w y a.2 n b.2)) (b_Y_readTag_38 1838 xv1 xv2 xv3 g) (nb_Y_readTag_38 v1 v2 v3 m) := by
  subst ev1
  subst ev2
  subst ev3
  unfold b_Y_readTag_38 nb_Y_readTag_38
  refine y_I hR hy yk76 yt76 (fun h1 => ?_)
  refine rf_lt rfl rfl rv3 h1 ?_ ?_
  · refine y_Q hR hy ya75.1 (by decide) ?_
    refine y_aB hR hy ya75 yl75 rfl rv3 (fun h4 h5 => ?_)
    refine rf_bind (f_Y_isLetter hy rfl (inB.r h5) hR) (fun a9 z7 h => ?_)
    obtain ⟨rfl, r8⟩ := h
    refine rf_eq rfl (e_n 0) (inZ.r r8) (show inR 0 by decide) ?_ ?_
    · refine y_Q hR hy ya75.1 (by decide) ?_
      refine y_aB hR hy ya75 yl75 rfl rv3 (fun h12 h13 => ?_)
      refine rf_bind (f_Y_isDigit hy rfl (inB.r h13) hR) (fun a17 z15 h => ?_)
      obtain ⟨rfl, r16⟩ := h
      refine rf_eq rfl (e_n 0) (inZ.r r16) (show inR 0 by decide) ?_ ?_
      · exact rf_ok (by exact ⟨⟨rfl, rv3⟩, hR⟩)
      · exact fk_Y_readTag_70 hy rfl rv1 rfl rv2 rfl rv3 hR
    · exact fk_Y_readTag_70 hy rfl rv1 rfl rv2 rfl rv3 hR
  · exact rf_ok (by exact ⟨⟨rfl, rv3⟩, hR⟩)
noncomputable def NL_Y_readTag_38 (v1 : Int) (v2 : Int) (v3 : Int) (m : YS) : Option (Int × YS) :=
  it (fun s : Int × YS => nb_Y_readTag_38 v1 v2 s.1 s.2) (v3, m)
theorem fL_Y_readTag_38 {w y : Prop} {g : g_S} {n : NS} {m : YS} (hy : y) {xv1 : Int32} {v1 : Int} (ev1 : xv1 = Int32.ofInt v1) (rv1 : inR v1) {xv2 : Int32} {v2 : Int} (ev2 : xv2 = Int32.ofInt v2) (rv2 : inR v2) {xv3 : Int32} {v3 : Int} (ev3 : xv3 = Int32.ofInt v3) (rv3 : inR v3) (hR : RC w y g n m) : Rf (fun a b => RI a.1 b.1 ∧ RC w y a.2 n b.2) (L_Y_readTag_38 1838 xv1 xv2 xv3 g) (NL_Y_readTag_38 v1 v2 v3 m) := by
  subst ev1
  subst ev2
  subst ev3
  unfold L_Y_readTag_38 NL_Y_readTag_38
  refine rf_it (I := (fun a b => RI a.1 b.1 ∧ RC w y a.2 n b.2)) (fun s t h => ?_) ⟨⟨rfl, rv3⟩, hR⟩
  exact fb_Y_readTag_38 hy rfl rv1 rfl rv2 h.1.1 h.1.2 h.2
theorem NL_Y_readTag_38_eq (v1 : Int) (v2 : Int) (v3 : Int) (m : YS) : NL_Y_readTag_38 v1 v2 v3 m = itc (nb_Y_readTag_38 v1 v2 v3 m) (fun s => NL_Y_readTag_38 v1 v2 s.1 s.2) := it_eq2 (fun s : Int × YS => nb_Y_readTag_38 v1 v2 s.1 s.2) (v3, m)
noncomputable def nk_Y_readTag_193 (v1 : Int) (v2 : Int) (v3 : Int) (w0 : Int) (m : YS) : Option ((Int × Int × YS) ⊕ (Int × YS)) :=
  if w0 = 0 then
    some (.inl (v3, w0, m))
  else
    (N_Y_readAttribute v3 m).bind <| u2 fun z3 m6 =>
    some (.inl (z3, w0, m6))
theorem fk_Y_readTag_193 {w y : Prop} {g : g_S} {n : NS} {m : YS} (hy : y) {xv1 : Int32} {v1 : Int} (ev1 : xv1 = Int32.ofInt v1) (rv1 : inR v1) {xv2 : Int32} {v2 : Int} (ev2 : xv2 = Int32.ofInt v2) (rv2 : inR v2) {xv3 : Int32} {v3 : Int} (ev3 : xv3 = Int32.ofInt v3) (rv3 : inR v3) {xw0 : Int32} {w0 : Int} (ew0 : xw0 = Int32.ofInt w0) (rw0 : inR w0) (hR : RC w y g n m) : Rf (RS (fun a b => RI a.1 b.1 ∧ RI a.2.1 b.2.1 ∧ RC w y a.2.2 n b.2.2) (fun a b => RI a.1 b.1 ∧ RC w y a.2 n b.2)) (k_Y_readTag_193 1838 xv1 xv2 xv3 xw0 g) (nk_Y_readTag_193 v1 v2 v3 w0 m) := by
  subst ev1
  subst ev2
  subst ev3
  subst ew0
  unfold k_Y_readTag_193 nk_Y_readTag_193
  refine rf_eq rfl (e_n 0) rw0 (show inR 0 by decide) ?_ ?_
  · exact rf_ok (by exact ⟨⟨rfl, rv3⟩, ⟨rfl, rw0⟩, hR⟩)
  · refine v_c2 (y_gt hR hy) ?_
    refine rf_c2 (f_Y_readAttribute hy rfl rv3 hR) (fun a5 g8 b h => ?_)
    obtain ⟨z3, m6⟩ := b
    refine rf_v2 ?_
    obtain ⟨rfl, r4⟩ := (show RI a5 z3 from h.1)
    have hR7 : RC w y g8 n m6 := h.2
    exact rf_ok (by exact ⟨⟨rfl, r4⟩, ⟨rfl, rw0⟩, hR7⟩)
noncomputable def nk_Y_readTag_192 (v1 : Int) (v2 : Int) (v3 : Int) (m : YS) : Option ((Int × Int × YS) ⊕ (Int × YS)) :=
  nk_Y_readTag_193 v1 v2 v3 0 m
theorem fk_Y_readTag_192 {w y : Prop} {g : g_S} {n : NS} {m : YS} (hy : y) {xv1 : Int32} {v1 : Int} (ev1 : xv1 = Int32.ofInt v1) (rv1 : inR v1) {xv2 : Int32} {v2 : Int} (ev2 : xv2 = Int32.ofInt v2) (rv2 : inR v2) {xv3 : Int32} {v3 : Int} (ev3 : xv3 = Int32.ofInt v3) (rv3 : inR v3) (hR : RC w y g n m) : Rf (RS (fun a b => RI a.1 b.1 ∧ RI a.2.1 b.2.1 ∧ RC w y a.2.2 n b.2.2) (fun a b => RI a.1 b.1 ∧ RC w y a.2 n b.2)) (k_Y_readTag_192 1838 xv1 xv2 xv3 g) (nk_Y_readTag_192 v1 v2 v3 m) := by
  subst ev1
  subst ev2
  subst ev3
  unfold k_Y_readTag_192 nk_Y_readTag_192
  exact fk_Y_readTag_193 hy rfl rv1 rfl rv2 rfl rv3 (e_n 0) (show inR 0 by decide) hR
noncomputable def nk_Y_readTag_169 (v1 : Int) (v2 : Int) (v3 : Int) (m : YS) : Option ((Int × Int × YS) ⊕ (Int × YS)) :=
  if v3 < (m 76 0) then
    ix v3 2000 <|
    if (m 75 v3) = 62 then
      nk_Y_readTag_192 v1 v2 v3 m
    else
      nk_Y_readTag_193 v1 v2 v3 1 m
  else
    nk_Y_readTag_192 v1 v2 v3 m
theorem fk_Y_readTag_169 {w y : Prop} {g : g_S} {n : NS} {m : YS} (hy : y) {xv1 : Int32} {v1 : Int} (ev1 : xv1 = Int32.ofInt v1) (rv1 : inR v1) {xv2 : Int32} {v2 : Int} (ev2 : xv2 = Int32.ofInt v2) (rv2 : inR v2) {xv3 : Int32} {v3 : Int} (ev3 : xv3 = Int32.ofInt v3) (rv3 : inR v3) (hR : RC w y g n m) : Rf (RS (fun a b => RI a.1 b.1 ∧ RI a.2.1 b.2.1 ∧ RC w y a.2.2 n b.2.2) (fun a b => RI a.1 b.1 ∧ RC w y a.2 n b.2)) (k_Y_readTag_169 1838 xv1 xv2 xv3 g) (nk_Y_readTag_169 v1 v2 v3 m) := by
  subst ev1
  subst ev2
  subst ev3
  unfold k_Y_readTag_169 nk_Y_readTag_169
  refine y_I hR hy yk76 yt76 (fun h1 => ?_)
  refine rf_lt rfl rfl rv3 h1 ?_ ?_
  · refine y_Q hR hy ya75.1 (by decide) ?_
    refine y_aB hR hy ya75 yl75 rfl rv3 (fun h4 h5 => ?_)
    refine rf_eq rfl (e_n 62) (inB.r h5) (show inR 62 by decide) ?_ ?_
    · exact fk_Y_readTag_192 hy rfl rv1 rfl rv2 rfl rv3 hR
    · exact fk_Y_readTag_193 hy rfl rv1 rfl rv2 rfl rv3 (e_n 1) (show inR 1 by decide) hR
  · exact fk_Y_readTag_192 hy rfl rv1 rfl rv2 rfl rv3 hR
noncomputable def nb_Y_readTag_127 (v1 : Int) (v2 : Int) (v3 : Int) (v4 : Int) (m : YS) : Option ((Int × Int × YS) ⊕ (Int × YS)) :=
  if v4 = 0 then
    some (.inr (v3, m))
  else
    (NL_Y_readTag_132 v1 v2 v3 m).bind <| fun z2 =>
    nk_Y_readTag_169 v1 v2 z2 m
theorem fb_Y_readTag_127 {w y : Prop} {g : g_S} {n : NS} {m : YS} (hy : y) {xv1 : Int32} {v1 : Int} (ev1 : xv1 = Int32.ofInt v1) (rv1 : inR v1) {xv2 : Int32} {v2 : Int} (ev2 : xv2 = Int32.ofInt v2) (rv2 : inR v2) {xv3 : Int32} {v3 : Int} (ev3 : xv3 = Int32.ofInt v3) (rv3 : inR v3) {xv4 : Int32} {v4 : Int} (ev4 : xv4 = Int32.ofInt v4) (rv4 : inR v4) (hR : RC w y g n m) : Rf (RS (fun a b => RI a.1 b.1 ∧ RI a.2.1 b.2.1 ∧ RC w y a.2.2 n b.2.2) (fun a b => RI a.1 b.1 ∧ RC w y a.2 n b.2)) (b_Y_readTag_127 1838 xv1 xv2 xv3 xv4 g) (nb_Y_readTag_127 v1 v2 v3 v4 m) := by
  subst ev1
  subst ev2
  subst ev3
  subst ev4
  unfold b_Y_readTag_127 nb_Y_readTag_127
  refine rf_eq rfl (e_n 0) rv4 (show inR 0 by decide) ?_ ?_
  · exact rf_ok (by exact ⟨⟨rfl, rv3⟩, hR⟩)
  · refine rf_bind (fL_Y_readTag_132 hy rfl rv1 rfl rv2 rfl rv3 hR) (fun a3 z2 h => ?_)
    obtain ⟨rfl, r4⟩ := (show RI a3 z2 from h)
    exact fk_Y_readTag_169 hy rfl rv1 rfl rv2 rfl r4 hR
noncomputable def NL_Y_readTag_127 (v1 : Int) (v2 : Int) (v3 : Int) (v4 : Int) (m : YS) : Option (Int × YS) :=
  it (fun s : Int × Int × YS => nb_Y_readTag_127 v1 v2 s.1 s.2.1 s.2.2) (v3, v4, m)
theorem fL_Y_readTag_127 {w y : Prop} {g : g_S} {n : NS} {m : YS} (hy : y) {xv1 : Int32} {v1 : Int} (ev1 : xv1 = Int32.ofInt v1) (rv1 : inR v1) {xv2 : Int32} {v2 : Int} (ev2 : xv2 = Int32.ofInt v2) (rv2 : inR v2) {xv3 : Int32} {v3 : Int} (ev3 : xv3 = Int32.ofInt v3) (rv3 : inR v3) {xv4 : Int32} {v4 : Int} (ev4 : xv4 = Int32.ofInt v4) (rv4 : inR v4) (hR : RC w y g n m) : Rf (fun a b => RI a.1 b.1 ∧ RC w y a.2 n b.2) (L_Y_readTag_127 1838 xv1 xv2 xv3 xv4 g) (NL_Y_readTag_127 v1 v2 v3 v4 m) := by
  subst ev1
  subst ev2
  subst ev3
  subst ev4
  unfold L_Y_readTag_127 NL_Y_readTag_127
  refine rf_it (I := (fun a b => RI a.1 b.1 ∧ RI a.2.1 b.2.1 ∧ RC w y a.2.2 n b.2.2)) (fun s t h => ?_) ⟨⟨rfl, rv3⟩, ⟨rfl, rv4⟩, hR⟩
  exact fb_Y_readTag_127 hy rfl rv1 rfl rv2 h.1.1 h.1.2 h.2.1.1 h.2.1.2 h.2.2
theorem NL_Y_readTag_127_eq (v1 : Int) (v2 : Int) (v3 : Int) (v4 : Int) (m : YS) : NL_Y_readTag_127 v1 v2 v3 v4 m = itc (nb_Y_readTag_127 v1 v2 v3 v4 m) (fun s => NL_Y_readTag_127 v1 v2 s.1 s.2.1 s.2.2) := it_eq2 (fun s : Int × Int × YS => nb_Y_readTag_127 v1 v2 s.1 s.2.1 s.2.2) (v3, v4, m)
noncomputable def nk_Y_readTag_114 (v1 : Int) (v2 : Int) (v3 : Int) (m : YS) : Option (Int × YS) :=
  st (yw m 80 0 0) fun m2 =>
  st (yw m2 85 0 0) fun m6 =>
  (NL_Y_readTag_127 v1 v2 v3 1 m6).bind <| u2 fun z9 m10 =>
  if z9 < (m10 76 0) then
    (N_Y_tagOf 78 0 (m10 79 0) m10).bind fun z20 =>
    if v2 = 0 then
      (NL_Y_readTag_259 v1 z9 z20 0 m10).bind <| fun m24 =>
      (N_Y_startTag v1 z20 m24).bind fun m28 =>
      ck (z9 + 1) <|
      some (z9 + 1, m28)
    else
      (N_Y_endTag v1 z20 m10).bind fun m34 =>
      ck (z9 + 1) <|
      some (z9 + 1, m34)
  else
    (N_Y_tellFault 1 v1 m10).bind fun m40 =>
    some ((m40 76 0), m40)
theorem fk_Y_readTag_114 {w y : Prop} {g : g_S} {n : NS} {m : YS} (hy : y) {xv1 : Int32} {v1 : Int} (ev1 : xv1 = Int32.ofInt v1) (rv1 : inR v1) {xv2 : Int32} {v2 : Int} (ev2 : xv2 = Int32.ofInt v2) (rv2 : inR v2) {xv3 : Int32} {v3 : Int} (ev3 : xv3 = Int32.ofInt v3) (rv3 : inR v3) (hR : RC w y g n m) : Rf (fun a b => RI a.1 b.1 ∧ RC w y a.2 n b.2) (k_Y_readTag_114 1838 xv1 xv2 xv3 g) (nk_Y_readTag_114 v1 v2 v3 m) := by
  subst ev1
  subst ev2
  subst ev3
  unfold k_Y_readTag_114 nk_Y_readTag_114
  refine y_pI hR hy yk80 ⟨yt80, yz80⟩ (e_n 0) (show inR 0 by decide) (fun g4 m2 hR3 => ?_)
  refine y_pI hR3 hy yk85 ⟨yt85, yz85⟩ (e_n 0) (show inR 0 by decide) (fun g8 m6 hR7 => ?_)
  refine rf_bind (fL_Y_readTag_127 hy rfl rv1 rfl rv2 rfl rv3 (e_n 1) (show inR 1 by decide) hR7) (fun a b h => ?_)
  obtain ⟨a11, a12⟩ := a
  obtain ⟨z9, m10⟩ := b
  refine rf_u2 ?_
  obtain ⟨rfl, r14⟩ := (show RI a11 z9 from h.1)
  have hR13 : RC w y a12 n m10 := h.2
  refine y_I hR13 hy yk76 yt76 (fun h15 => ?_)
  refine rf_lt rfl rfl r14 h15 ?_ ?_
  · refine y_Q hR13 hy ya78.1 (by decide) ?_
    refine y_I hR13 hy yk79 yt79 (fun h18 => ?_)
    refine rf_bind (f_Y_tagOf hy rfl ya78 (e_n 0) (show inR 0 by decide) rfl h18 hR13) (fun a22 z20 h => ?_)
    obtain ⟨rfl, r21⟩ := h
    refine rf_eq rfl (e_n 0) rv2 (show inR 0 by decide) ?_ ?_
    · refine rf_bind (fL_Y_readTag_259 hy rfl rv1 rfl r14 rfl r21 (e_n 0) (show inR 0 by decide) hR13) (fun a25 m24 h => ?_)
      have hR26 : RC w y a25 n m24 := h
      refine v_c (y_gt hR26 hy) ?_
      refine rf_bind (f_Y_startTag hy rfl rv1 rfl r21 hR26) (fun g30 m28 hR29 => ?_)
      refine rf_ck (fun h31 => ?_)
      exact rf_ok (by exact ⟨⟨(e_add rfl (e_n 1)), h31⟩, hR29⟩)
    · refine v_c (y_gt hR13 hy) ?_
      refine rf_bind (f_Y_endTag hy rfl rv1 rfl r21 hR13) (fun g36 m34 hR35 => ?_)
      refine rf_ck (fun h37 => ?_)
      exact rf_ok (by exact ⟨⟨(e_add rfl (e_n 1)), h37⟩, hR35⟩)
  · refine v_c (y_gt hR13 hy) ?_
    refine rf_bind (f_Y_tellFault hy (e_n 1) (show inR 1 by decide) rfl rv1 hR13) (fun g42 m40 hR41 => ?_)
    refine y_I hR41 hy yk76 yt76 (fun h43 => ?_)
    exact rf_ok (by exact ⟨⟨rfl, h43⟩, hR41⟩)
noncomputable def nk_Y_readTag_32 (v1 : Int) (v2 : Int) (w0 : Int) (m : YS) : Option (Int × YS) :=
  st (yw m 79 0 0) fun m2 =>
  (NL_Y_readTag_38 v1 v2 w0 m2).bind <| u2 fun z5 m6 =>
  nk_Y_readTag_114 v1 v2 z5 m6
theorem fk_Y_readTag_32 {w y : Prop} {g : g_S} {n : NS} {m : YS} (hy : y) {xv1 : Int32} {v1 : Int} (ev1 : xv1 = Int32.ofInt v1) (rv1 : inR v1) {xv2 : Int32} {v2 : Int} (ev2 : xv2 = Int32.ofInt v2) (rv2 : inR v2) {xw0 : Int32} {w0 : Int} (ew0 : xw0 = Int32.ofInt w0) (rw0 : inR w0) (hR : RC w y g n m) : Rf (fun a b => RI a.1 b.1 ∧ RC w y a.2 n b.2) (k_Y_readTag_32 1838 xv1 xv2 xw0 g) (nk_Y_readTag_32 v1 v2 w0 m) := by
  subst ev1
  subst ev2
  subst ew0
  unfold k_Y_readTag_32 nk_Y_readTag_32
  refine y_pI hR hy yk79 ⟨yt79, yz79⟩ (e_n 0) (show inR 0 by decide) (fun g4 m2 hR3 => ?_)
  refine rf_bind (fL_Y_readTag_38 hy rfl rv1 rfl rv2 rfl rw0 hR3) (fun a b h => ?_)
  obtain ⟨a7, a8⟩ := a
  obtain ⟨z5, m6⟩ := b
  refine rf_u2 ?_
  obtain ⟨rfl, r10⟩ := (show RI a7 z5 from h.1)
  have hR9 : RC w y a8 n m6 := h.2
  exact fk_Y_readTag_114 hy rfl rv1 rfl rv2 rfl r10 hR9
noncomputable def nk_Y_readTag_18 (v1 : Int) (w0 : Int) (m : YS) : Option (Int × YS) :=
  if w0 = 0 then
    ck (v1 + 1) <|
    nk_Y_readTag_32 v1 w0 (v1 + 1) m
  else
    ck (v1 + 2) <|
    nk_Y_readTag_32 v1 w0 (v1 + 2) m
theorem fk_Y_readTag_18 {w y : Prop} {g : g_S} {n : NS} {m : YS} (hy : y) {xv1 : Int32} {v1 : Int} (ev1 : xv1 = Int32.ofInt v1) (rv1 : inR v1) {xw0 : Int32} {w0 : Int} (ew0 : xw0 = Int32.ofInt w0) (rw0 : inR w0) (hR : RC w y g n m) : Rf (fun a b => RI a.1 b.1 ∧ RC w y a.2 n b.2) (k_Y_readTag_18 1838 xv1 xw0 g) (nk_Y_readTag_18 v1 w0 m) := by
  subst ev1
  subst ew0
  unfold k_Y_readTag_18 nk_Y_readTag_18
  refine rf_eq rfl (e_n 0) rw0 (show inR 0 by decide) ?_ ?_
  · refine rf_ck (fun h2 => ?_)
    exact fk_Y_readTag_32 hy rfl rv1 rfl rw0 (e_add rfl (e_n 1)) h2 hR
  · refine rf_ck (fun h3 => ?_)
    exact fk_Y_readTag_32 hy rfl rv1 rfl rw0 (e_add rfl (e_n 2)) h3 hR
noncomputable def N_Y_readTag (v1 : Int) (m : YS) : Option (Int × YS) :=
  ck (v1 + 1) <|
  ix (v1 + 1) 2000 <|
  if (m 75 (v1 + 1)) = 47 then
    nk_Y_readTag_18 v1 1 m
  else
    nk_Y_readTag_18 v1 0 m
theorem f_Y_readTag {w y : Prop} {g : g_S} {n : NS} {m : YS} (hy : y) {xv1 : Int32} {v1 : Int} (ev1 : xv1 = Int32.ofInt v1) (rv1 : inR v1) (hR : RC w y g n m) : Rf (fun a b => RI a.1 b.1 ∧ RC w y a.2 n b.2) (M_Y_readTag 1838 xv1 g) (N_Y_readTag v1 m) := by
  subst ev1
  unfold M_Y_readTag N_Y_readTag
  refine y_Q hR hy ya75.1 (by decide) ?_
  refine rf_ck (fun h2 => ?_)
  refine y_aB hR hy ya75 yl75 (e_add rfl (e_n 1)) h2 (fun h3 h4 => ?_)
  refine rf_eq rfl (e_n 47) (inB.r h4) (show inR 47 by decide) ?_ ?_
  · exact fk_Y_readTag_18 hy rfl rv1 (e_n 1) (show inR 1 by decide) hR
  · exact fk_Y_readTag_18 hy rfl rv1 (e_n 0) (show inR 0 by decide) hR
noncomputable def nk_Y_readPage_70 (v1 : Int) (m : YS) : Option ((Int × YS) ⊕ (YS)) :=
  (N_Y_isNote v1 m).bind fun z2 =>
  if z2 = 0 then
    (N_Y_isTag v1 m).bind fun z7 =>
    if z7 = 0 then
      (N_Y_run v1 0 m).bind <| u2 fun z12 m15 =>
      some (.inl (z12, m15))
    else
      (N_Y_readTag v1 m).bind <| u2 fun z19 m22 =>
      some (.inl (z19, m22))
  else
    (N_Y_note v1 m).bind <| u2 fun z26 m29 =>
    some (.inl (z26, m29))
theorem fk_Y_readPage_70 {w y : Prop} {g : g_S} {n : NS} {m : YS} (hy : y) {xv1 : Int32} {v1 : Int} (ev1 : xv1 = Int32.ofInt v1) (rv1 : inR v1) (hR : RC w y g n m) : Rf (RS (fun a b => RI a.1 b.1 ∧ RC w y a.2 n b.2) (fun a b => RC w y a n b)) (k_Y_readPage_70 1838 xv1 g) (nk_Y_readPage_70 v1 m) := by
  subst ev1
  unfold k_Y_readPage_70 nk_Y_readPage_70
  refine v_c (y_gt hR hy) ?_
  refine rf_bind (f_Y_isNote hy rfl rv1 hR) (fun a4 z2 h => ?_)
  obtain ⟨rfl, r3⟩ := h
  refine rf_eq rfl (e_n 0) (inZ.r r3) (show inR 0 by decide) ?_ ?_
  · refine v_c (y_gt hR hy) ?_
    refine rf_bind (f_Y_isTag hy rfl rv1 hR) (fun a9 z7 h => ?_)
    obtain ⟨rfl, r8⟩ := h
    refine rf_eq rfl (e_n 0) (inZ.r r8) (show inR 0 by decide) ?_ ?_
    · refine v_c2 (y_gt hR hy) ?_
      refine rf_c2 (f_Y_run hy rfl rv1 (e_n 0) (show inR 0 by decide) hR) (fun a14 g17 b h => ?_)
      obtain ⟨z12, m15⟩ := b
      refine rf_v2 ?_
      obtain ⟨rfl, r13⟩ := (show RI a14 z12 from h.1)
      have hR16 : RC w y g17 n m15 := h.2
      exact rf_ok (by exact ⟨⟨rfl, r13⟩, hR16⟩)
    · refine v_c2 (y_gt hR hy) ?_
      refine rf_c2 (f_Y_readTag hy rfl rv1 hR) (fun a21 g24 b h => ?_)
      obtain ⟨z19, m22⟩ := b
      refine rf_v2 ?_
      obtain ⟨rfl, r20⟩ := (show RI a21 z19 from h.1)
      have hR23 : RC w y g24 n m22 := h.2
      exact rf_ok (by exact ⟨⟨rfl, r20⟩, hR23⟩)
  · refine v_c2 (y_gt hR hy) ?_
    refine rf_c2 (f_Y_note hy rfl rv1 hR) (fun a28 g31 b h => ?_)
    obtain ⟨z26, m29⟩ := b
    refine rf_v2 ?_
    obtain ⟨rfl, r27⟩ := (show RI a28 z26 from h.1)
    have hR30 : RC w y g31 n m29 := h.2
    exact rf_ok (by exact ⟨⟨rfl, r27⟩, hR30⟩)
noncomputable def nb_Y_readPage_23 (v1 : Int) (m : YS) : Option ((Int × YS) ⊕ (YS)) :=
  if v1 < (m 76 0) then
    ck ((m 74 0) - 1) <|
    ix ((m 74 0) - 1) 22 <|
    ix (m 73 ((m 74 0) - 1)) 120 <|
    if (m 46 (m 73 ((m 74 0) - 1))) = 15 then
      (N_Y_endsStyle v1 m).bind fun z13 =>
      if z13 = 0 then
        (N_Y_run v1 1 m).bind <| u2 fun z18 m21 =>
        some (.inl (z18, m21))
      else
        nk_Y_readPage_70 v1 m
    else
      nk_Y_readPage_70 v1 m
  else
    some (.inr m)
theorem fb_Y_readPage_23 {w y : Prop} {g : g_S} {n : NS} {m : YS} (hy : y) {xv1 : Int32} {v1 : Int} (ev1 : xv1 = Int32.ofInt v1) (rv1 : inR v1) (hR : RC w y g n m) : Rf (RS (fun a b => RI a.1 b.1 ∧ RC w y a.2 n b.2) (fun a b => RC w y a n b)) (b_Y_readPage_23 1838 xv1 g) (nb_Y_readPage_23 v1 m) := by
  subst ev1
  unfold b_Y_readPage_23 nb_Y_readPage_23
  refine y_I hR hy yk76 yt76 (fun h1 => ?_)
  refine rf_lt rfl rfl rv1 h1 ?_ ?_
  · refine y_Q hR hy ya46.1 (by decide) ?_
    refine y_Q hR hy ya73.1 (by decide) ?_
    refine y_I hR hy yk74 yt74 (fun h5 => ?_)
    refine rf_ck (fun h6 => ?_)
    refine y_aI hR hy ya73 yl73 (e_sub rfl (e_n 1)) h6 (fun h7 h8 => ?_)
    refine y_aI hR hy ya46 yl46 rfl h8 (fun h9 h10 => ?_)
    refine rf_eq rfl (e_n 15) h10 (show inR 15 by decide) ?_ ?_
    · refine v_c (y_gt hR hy) ?_
      refine rf_bind (f_Y_endsStyle hy rfl rv1 hR) (fun a15 z13 h => ?_)
      obtain ⟨rfl, r14⟩ := h
      refine rf_eq rfl (e_n 0) (inZ.r r14) (show inR 0 by decide) ?_ ?_
      · refine v_c2 (y_gt hR hy) ?_
        refine rf_c2 (f_Y_run hy rfl rv1 (e_n 1) (show inR 1 by decide) hR) (fun a20 g23 b h => ?_)
        obtain ⟨z18, m21⟩ := b
        refine rf_v2 ?_
        obtain ⟨rfl, r19⟩ := (show RI a20 z18 from h.1)
        have hR22 : RC w y g23 n m21 := h.2
        exact rf_ok (by exact ⟨⟨rfl, r19⟩, hR22⟩)
      · exact fk_Y_readPage_70 hy rfl rv1 hR
    · exact fk_Y_readPage_70 hy rfl rv1 hR
  · exact rf_ok (by exact hR)
noncomputable def NL_Y_readPage_23 (v1 : Int) (m : YS) : Option (YS) :=
  it (fun s : Int × YS => nb_Y_readPage_23 s.1 s.2) (v1, m)
theorem fL_Y_readPage_23 {w y : Prop} {g : g_S} {n : NS} {m : YS} (hy : y) {xv1 : Int32} {v1 : Int} (ev1 : xv1 = Int32.ofInt v1) (rv1 : inR v1) (hR : RC w y g n m) : Rf (fun a b => RC w y a n b) (L_Y_readPage_23 1838 xv1 g) (NL_Y_readPage_23 v1 m) := by
  subst ev1
  unfold L_Y_readPage_23 NL_Y_readPage_23
  refine rf_it (I := (fun a b => RI a.1 b.1 ∧ RC w y a.2 n b.2)) (fun s t h => ?_) ⟨⟨rfl, rv1⟩, hR⟩
  exact fb_Y_readPage_23 hy h.1.1 h.1.2 h.2
theorem NL_Y_readPage_23_eq (v1 : Int) (m : YS) : NL_Y_readPage_23 v1 m = itc (nb_Y_readPage_23 v1 m) (fun s => NL_Y_readPage_23 s.1 s.2) := it_eq2 (fun s : Int × YS => nb_Y_readPage_23 s.1 s.2) (v1, m)
noncomputable def N_Y_readPage (m : YS) : Option (YS) :=
  st (yw m 70 0 0) fun m2 =>
  (N_Y_emptyTree m2).bind fun m6 =>
  ix 0 22 <|
  st (yw m6 73 0 0) fun m11 =>
  st (yw m11 74 0 1) fun m15 =>
  (NL_Y_readPage_23 0 m15).bind <| fun m18 =>
  (N_Y_closeTo 1 (-1) (-1) m18).bind fun m22 =>
  some m22
theorem f_Y_readPage {w y : Prop} {g : g_S} {n : NS} {m : YS} (hy : y) (hR : RC w y g n m) : Rf (fun a b => RC w y a n b) (M_Y_readPage 1838 g) (N_Y_readPage m) := by
  unfold M_Y_readPage N_Y_readPage
  refine y_pI hR hy yk70 ⟨yt70, yz70⟩ (e_n 0) (show inR 0 by decide) (fun g4 m2 hR3 => ?_)
  refine v_c (y_gt hR3 hy) ?_
  refine rf_bind (f_Y_emptyTree hy hR3) (fun g8 m6 hR7 => ?_)
  refine y_Q hR7 hy ya73.1 (by decide) ?_
  refine y_sI hR7 hy ya73 yl73 (e_n 0) (show inR 0 by decide) (e_n 0) (show inR 0 by decide) (fun g13 m11 hR12 => ?_)
  refine y_pI hR12 hy yk74 ⟨yt74, yz74⟩ (e_n 1) (show inR 1 by decide) (fun g17 m15 hR16 => ?_)
  refine rf_bind (fL_Y_readPage_23 hy (e_n 0) (show inR 0 by decide) hR16) (fun a19 m18 h => ?_)
  have hR20 : RC w y a19 n m18 := h
  refine v_c (y_gt hR20 hy) ?_
  refine rf_bind (f_Y_closeTo hy (e_n 1) (show inR 1 by decide) (e_m 1) (show inR (-1) by decide) (e_m 1) (show inR (-1) by decide) hR20) (fun g24 m22 hR23 => ?_)
  exact rf_ok (by exact hR23)
noncomputable def N_Y_changed (m : YS) : Option (YS) :=
  st (yw m 126 0 0) fun m2 =>
  some m2
theorem f_Y_changed {w y : Prop} {g : g_S} {n : NS} {m : YS} (hy : y) (hR : RC w y g n m) : Rf (fun a b => RC w y a n b) (M_Y_changed 1838 g) (N_Y_changed m) := by
  unfold M_Y_changed N_Y_changed
  refine y_pZ hR hy yk126 yt126 (e_n 0) (.inl rfl) (fun g4 m2 hR3 => ?_)
  exact rf_ok (by exact hR3)
noncomputable def N_Y_newPage (m : YS) : Option (YS) :=
  (N_Y_readPage m).bind fun m2 =>
  st (yw m2 150 0 (-1)) fun m6 =>
  st (yw m6 166 0 0) fun m10 =>
  (N_Y_changed m10).bind fun m14 =>
  st (yw m14 153 0 1) fun m18 =>
  some m18
theorem f_Y_newPage {w y : Prop} {g : g_S} {n : NS} {m : YS} (hy : y) (hR : RC w y g n m) : Rf (fun a b => RC w y a n b) (M_Y_newPage 1838 g) (N_Y_newPage m) := by
  unfold M_Y_newPage N_Y_newPage
  refine v_c (y_gt hR hy) ?_
  refine rf_bind (f_Y_readPage hy hR) (fun g4 m2 hR3 => ?_)
  refine y_pI hR3 hy yk150 ⟨yt150, yz150⟩ (e_m 1) (show inR (-1) by decide) (fun g8 m6 hR7 => ?_)
  refine y_pI hR7 hy yk166 ⟨yt166, yz166⟩ (e_n 0) (show inR 0 by decide) (fun g12 m10 hR11 => ?_)
  refine v_c (y_gt hR11 hy) ?_
  refine rf_bind (f_Y_changed hy hR11) (fun g16 m14 hR15 => ?_)
  refine y_pZ hR15 hy yk153 yt153 (e_n 1) (.inr rfl) (fun g20 m18 hR19 => ?_)
  exact rf_ok (by exact hR19)
noncomputable def nb_Y_goTo_36 (v1 : Int) (m : YS) : Option ((Int × YS) ⊕ (YS)) :=
  if v1 < (m 76 0) then
    ck ((m 44 0) * 1500) <|
    ck (((m 44 0) * 1500) + v1) <|
    ix (((m 44 0) * 1500) + v1) 30000 <|
    ix v1 2000 <|
    st (yw m 75 v1 (m 17 (((m 44 0) * 1500) + v1))) fun m11 =>
    ck (v1 + 1) <|
    some (.inl (v1 + 1, m11))
  else
    some (.inr m)
theorem fb_Y_goTo_36 {w y : Prop} {g : g_S} {n : NS} {m : YS} (hy : y) {xv1 : Int32} {v1 : Int} (ev1 : xv1 = Int32.ofInt v1) (rv1 : inR v1) (hR : RC w y g n m) : Rf (RS (fun a b => RI a.1 b.1 ∧ RC w y a.2 n b.2) (fun a b => RC w y a n b)) (b_Y_goTo_36 1838 xv1 g) (nb_Y_goTo_36 v1 m) := by
  subst ev1
  unfold b_Y_goTo_36 nb_Y_goTo_36
  refine y_I hR hy yk76 yt76 (fun h1 => ?_)
  refine rf_lt rfl rfl rv1 h1 ?_ ?_
  · refine y_Q hR hy ya75.1 (by decide) ?_
    refine y_Q hR hy ya17.1 (by decide) ?_
    refine y_I hR hy yk44 yt44 (fun h5 => ?_)
    refine rf_ck (fun h6 => ?_)
    refine rf_ck (fun h7 => ?_)
    refine y_aB hR hy ya17 yl17 (e_add (e_mul rfl (e_n 1500)) rfl) h7 (fun h8 h9 => ?_)
    refine y_sB hR hy ya75 yl75 rfl rv1 rfl h9 (fun g13 m11 hR12 => ?_)
    refine rf_ck (fun h14 => ?_)
    exact rf_ok (by exact ⟨⟨(e_add rfl (e_n 1)), h14⟩, hR12⟩)
  · exact rf_ok (by exact hR)
noncomputable def NL_Y_goTo_36 (v1 : Int) (m : YS) : Option (YS) :=
  it (fun s : Int × YS => nb_Y_goTo_36 s.1 s.2) (v1, m)
theorem fL_Y_goTo_36 {w y : Prop} {g : g_S} {n : NS} {m : YS} (hy : y) {xv1 : Int32} {v1 : Int} (ev1 : xv1 = Int32.ofInt v1) (rv1 : inR v1) (hR : RC w y g n m) : Rf (fun a b => RC w y a n b) (L_Y_goTo_36 1838 xv1 g) (NL_Y_goTo_36 v1 m) := by
  subst ev1
  unfold L_Y_goTo_36 NL_Y_goTo_36
  refine rf_it (I := (fun a b => RI a.1 b.1 ∧ RC w y a.2 n b.2)) (fun s t h => ?_) ⟨⟨rfl, rv1⟩, hR⟩
  exact fb_Y_goTo_36 hy h.1.1 h.1.2 h.2
theorem NL_Y_goTo_36_eq (v1 : Int) (m : YS) : NL_Y_goTo_36 v1 m = itc (nb_Y_goTo_36 v1 m) (fun s => NL_Y_goTo_36 s.1 s.2) := it_eq2 (fun s : Int × YS => nb_Y_goTo_36 s.1 s.2) (v1, m)
noncomputable def nb_Y_goTo_91 (v1 : Int) (m : YS) : Option ((Int × YS) ⊕ (YS)) :=
  ix 3 66 <|
  if v1 < (m 8 3) then
    ck (285 + v1) <|
    ck (585 + v1) <|
    ix (585 + v1) 9900 <|
    ix (285 + v1) 9900 <|
    st (yw m 6 (285 + v1) (m 6 (585 + v1))) fun m12 =>
    ck (v1 + 1) <|
    some (.inl (v1 + 1, m12))
  else
    some (.inr m)
theorem fb_Y_goTo_91 {w y : Prop} {g : g_S} {n : NS} {m : YS} (hy : y) {xv1 : Int32} {v1 : Int} (ev1 : xv1 = Int32.ofInt v1) (rv1 : inR v1) (hR : RC w y g n m) : Rf (RS (fun a b => RI a.1 b.1 ∧ RC w y a.2 n b.2) (fun a b => RC w y a n b)) (b_Y_goTo_91 1838 xv1 g) (nb_Y_goTo_91 v1 m) := by
  subst ev1
  unfold b_Y_goTo_91 nb_Y_goTo_91
  refine y_Q hR hy ya8.1 (by decide) ?_
  refine y_aI hR hy ya8 yl8 (e_n 3) (show inR 3 by decide) (fun h2 h3 => ?_)
  refine rf_lt rfl rfl rv1 h3 ?_ ?_
  · refine y_Q hR hy ya6.1 (by decide) ?_
    refine rf_ck (fun h6 => ?_)
    refine y_Q hR hy ya6.1 (by decide) ?_
    refine rf_ck (fun h8 => ?_)
    refine y_aB hR hy ya6 yl6 (e_add (e_n 585) rfl) h8 (fun h9 h10 => ?_)
    refine y_sB hR hy ya6 yl6 (e_add (e_n 285) rfl) h6 rfl h10 (fun g14 m12 hR13 => ?_)
    refine rf_ck (fun h15 => ?_)
    exact rf_ok (by exact ⟨⟨(e_add rfl (e_n 1)), h15⟩, hR13⟩)
  · exact rf_ok (by exact hR)
noncomputable def NL_Y_goTo_91 (v1 : Int) (m : YS) : Option (YS) :=
  it (fun s : Int × YS => nb_Y_goTo_91 s.1 s.2) (v1, m)
theorem fL_Y_goTo_91 {w y : Prop} {g : g_S} {n : NS} {m : YS} (hy : y) {xv1 : Int32} {v1 : Int} (ev1 : xv1 = Int32.ofInt v1) (rv1 : inR v1) (hR : RC w y g n m) : Rf (fun a b => RC w y a n b) (L_Y_goTo_91 1838 xv1 g) (NL_Y_goTo_91 v1 m) := by
  subst ev1
  unfold L_Y_goTo_91 NL_Y_goTo_91
  refine rf_it (I := (fun a b => RI a.1 b.1 ∧ RC w y a.2 n b.2)) (fun s t h => ?_) ⟨⟨rfl, rv1⟩, hR⟩
  exact fb_Y_goTo_91 hy h.1.1 h.1.2 h.2
theorem NL_Y_goTo_91_eq (v1 : Int) (m : YS) : NL_Y_goTo_91 v1 m = itc (nb_Y_goTo_91 v1 m) (fun s => NL_Y_goTo_91 s.1 s.2) := it_eq2 (fun s : Int × YS => nb_Y_goTo_91 s.1 s.2) (v1, m)
noncomputable def nk_Y_goTo_31 (w0 : Int) (m : YS) : Option (YS) :=
  st (yw m 76 0 w0) fun m2 =>
  (NL_Y_goTo_36 0 m2).bind <| fun m5 =>
  (N_Y_copyRow 1 4 m5).bind fun m9 =>
  ix 3 66 <|
  ix 1 66 <|
  st (yw m9 8 1 (m9 8 3)) fun m17 =>
  (NL_Y_goTo_91 0 m17).bind <| fun m20 =>
  (N_Y_newPage m20).bind fun m24 =>
  st (yw m24 152 0 1) fun m28 =>
  some m28
theorem fk_Y_goTo_31 {w y : Prop} {g : g_S} {n : NS} {m : YS} (hy : y) {xw0 : Int32} {w0 : Int} (ew0 : xw0 = Int32.ofInt w0) (rw0 : inR w0) (hR : RC w y g n m) : Rf (fun a b => RC w y a n b) (k_Y_goTo_31 1838 xw0 1838 g) (nk_Y_goTo_31 w0 m) := by
  subst ew0
  unfold k_Y_goTo_31 nk_Y_goTo_31
  refine y_pI hR hy yk76 ⟨yt76, yz76⟩ rfl rw0 (fun g4 m2 hR3 => ?_)
  refine rf_bind (fL_Y_goTo_36 hy (e_n 0) (show inR 0 by decide) hR3) (fun a6 m5 h => ?_)
  have hR7 : RC w y a6 n m5 := h
  refine v_c (y_gt hR7 hy) ?_
  refine rf_bind (f_Y_copyRow hy (e_n 1) (show inR 1 by decide) (e_n 4) (show inR 4 by decide) hR7) (fun g11 m9 hR10 => ?_)
  refine y_Q hR10 hy ya8.1 (by decide) ?_
  refine y_Q hR10 hy ya8.1 (by decide) ?_
  refine y_aI hR10 hy ya8 yl8 (e_n 3) (show inR 3 by decide) (fun h14 h15 => ?_)
  refine y_sI hR10 hy ya8 yl8 (e_n 1) (show inR 1 by decide) rfl h15 (fun g19 m17 hR18 => ?_)
  refine rf_bind (fL_Y_goTo_91 hy (e_n 0) (show inR 0 by decide) hR18) (fun a21 m20 h => ?_)
  have hR22 : RC w y a21 n m20 := h
  refine v_c (y_gt hR22 hy) ?_
  refine rf_bind (f_Y_newPage hy hR22) (fun g26 m24 hR25 => ?_)
  refine y_pZ hR25 hy yk152 yt152 (e_n 1) (.inr rfl) (fun g30 m28 hR29 => ?_)
  exact rf_ok (by exact hR29)
noncomputable def N_Y_goTo (m : YS) : Option (YS) :=
  (N_Y_copyRow 3 0 m).bind fun m2 =>
  (N_Y_fetch m2).bind fun m6 =>
  if (m6 44 0) < 0 then
    nk_Y_goTo_31 0 m6
  else
    ix (m6 44 0) 20 <|
    nk_Y_goTo_31 (m6 18 (m6 44 0)) m6
theorem f_Y_goTo {w y : Prop} {g : g_S} {n : NS} {m : YS} (hy : y) (hR : RC w y g n m) : Rf (fun a b => RC w y a n b) (M_Y_goTo 1838 g) (N_Y_goTo m) := by
  unfold M_Y_goTo N_Y_goTo
  refine v_c (y_gt hR hy) ?_
  refine rf_bind (f_Y_copyRow hy (e_n 3) (show inR 3 by decide) (e_n 0) (show inR 0 by decide) hR) (fun g4 m2 hR3 => ?_)
  refine v_c (y_gt hR3 hy) ?_
  refine rf_bind (f_Y_fetch hy hR3) (fun g8 m6 hR7 => ?_)
  refine y_I hR7 hy yk44 yt44 (fun h9 => ?_)
  refine rf_lt rfl (e_n 0) h9 (show inR 0 by decide) ?_ ?_
  · exact fk_Y_goTo_31 hy (e_n 0) (show inR 0 by decide) hR7
  · refine y_Q hR7 hy ya18.1 (by decide) ?_
    refine y_I hR7 hy yk44 yt44 (fun h12 => ?_)
    refine y_aI hR7 hy ya18 yl18 rfl h12 (fun h13 h14 => ?_)
    exact fk_Y_goTo_31 hy rfl h14 hR7
noncomputable def nk_Y_visitResult_29 (m : YS) : Option (YS) :=
  (N_Y_goTo m).bind fun m2 =>
  (N_Y_remember m2).bind fun m6 =>
  some m6
theorem fk_Y_visitResult_29 {w y : Prop} {g : g_S} {n : NS} {m : YS} (hy : y) (hR : RC w y g n m) : Rf (fun a b => RC w y a n b) (k_Y_visitResult_29 1838 g) (nk_Y_visitResult_29 m) := by
  unfold k_Y_visitResult_29 nk_Y_visitResult_29
  refine v_c (y_gt hR hy) ?_
  refine rf_bind (f_Y_goTo hy hR) (fun g4 m2 hR3 => ?_)
  refine v_c (y_gt hR3 hy) ?_
  refine rf_bind (f_Y_remember hy hR3) (fun g8 m6 hR7 => ?_)
  exact rf_ok (by exact hR7)
noncomputable def N_Y_visitResult (m : YS) : Option (YS) :=
  ix 0 66 <|
  if 0 < (m 8 0) then
    (N_Y_alike 0 1 m).bind fun z6 =>
    if z6 = 0 then
      nk_Y_visitResult_29 m
    else
      (N_Y_copyRow 1 0 m).bind fun m11 =>
      (N_Y_remember m11).bind fun m15 =>
      some m15
  else
    nk_Y_visitResult_29 m
theorem f_Y_visitResult {w y : Prop} {g : g_S} {n : NS} {m : YS} (hy : y) (hR : RC w y g n m) : Rf (fun a b => RC w y a n b) (M_Y_visitResult 1838 g) (N_Y_visitResult m) := by
  unfold M_Y_visitResult N_Y_visitResult
  refine y_Q hR hy ya8.1 (by decide) ?_
  refine y_aI hR hy ya8 yl8 (e_n 0) (show inR 0 by decide) (fun h2 h3 => ?_)
  refine rf_lt (e_n 0) rfl (show inR 0 by decide) h3 ?_ ?_
  · refine v_c (y_gt hR hy) ?_
    refine rf_bind (f_Y_alike hy (e_n 0) (show inR 0 by decide) (e_n 1) (show inR 1 by decide) hR) (fun a8 z6 h => ?_)
    obtain ⟨rfl, r7⟩ := h
    refine rf_eq rfl (e_n 0) (inZ.r r7) (show inR 0 by decide) ?_ ?_
    · exact fk_Y_visitResult_29 hy hR
    · refine v_c (y_gt hR hy) ?_
      refine rf_bind (f_Y_copyRow hy (e_n 1) (show inR 1 by decide) (e_n 0) (show inR 0 by decide) hR) (fun g13 m11 hR12 => ?_)
      refine v_c (y_gt hR12 hy) ?_
      refine rf_bind (f_Y_remember hy hR12) (fun g17 m15 hR16 => ?_)
      exact rf_ok (by exact hR16)
  · exact fk_Y_visitResult_29 hy hR
noncomputable def N_Y_onWay (v1 : Int) (m : YS) : Option (YS) :=
  ix (m 181 0) 120 <|
  st (yw m 179 (m 181 0) v1) fun m4 =>
  ix v1 120 <|
  ix (m4 181 0) 120 <|
  st (yw m4 180 (m4 181 0) (m4 55 v1)) fun m13 =>
  ck ((m13 181 0) + 1) <|
  st (yw m13 181 0 ((m13 181 0) + 1)) fun m19 =>
  some m19
theorem f_Y_onWay {w y : Prop} {g : g_S} {n : NS} {m : YS} (hy : y) {xv1 : Int32} {v1 : Int} (ev1 : xv1 = Int32.ofInt v1) (rv1 : inR v1) (hR : RC w y g n m) : Rf (fun a b => RC w y a n b) (M_Y_onWay 1838 xv1 g) (N_Y_onWay v1 m) := by
  subst ev1
  unfold M_Y_onWay N_Y_onWay
  refine y_Q hR hy ya179.1 (by decide) ?_
  refine y_I hR hy yk181 yt181 (fun h2 => ?_)
  refine y_sI hR hy ya179 yl179 rfl h2 rfl rv1 (fun g6 m4 hR5 => ?_)
  refine y_Q hR5 hy ya180.1 (by decide) ?_
  refine y_I hR5 hy yk181 yt181 (fun h8 => ?_)
  refine y_Q hR5 hy ya55.1 (by decide) ?_
  refine y_aI hR5 hy ya55 yl55 rfl rv1 (fun h10 h11 => ?_)
  refine y_sI hR5 hy ya180 yl180 rfl h8 rfl h11 (fun g15 m13 hR14 => ?_)
  refine y_I hR14 hy yk181 yt181 (fun h16 => ?_)
  refine rf_ck (fun h17 => ?_)
  refine y_pI hR14 hy yk181 ⟨yt181, yz181⟩ (e_add rfl (e_n 1)) h17 (fun g21 m19 hR20 => ?_)
  exact rf_ok (by exact hR20)
noncomputable def nb_Y_behind_2 (v2 : Int) (v3 : Int) (m : YS) : Option ((Int) ⊕ (Int)) :=
  if v3 = v2 then
    some (.inr v3)
  else
    ix v3 120 <|
    if (m 52 v3) = (-1) then
      ix v3 120 <|
      some (.inl (m 49 v3))
    else
      some (.inr v3)
theorem fb_Y_behind_2 {w y : Prop} {g : g_S} {n : NS} {m : YS} (hy : y) {xv2 : Int32} {v2 : Int} (ev2 : xv2 = Int32.ofInt v2) (rv2 : inR v2) {xv3 : Int32} {v3 : Int} (ev3 : xv3 = Int32.ofInt v3) (rv3 : inR v3) (hR : RC w y g n m) : Rf (RS (fun a b => RI a b) (fun a b => RI a b)) (b_Y_behind_2 1838 xv2 xv3 g) (nb_Y_behind_2 v2 v3 m) := by
  subst ev2
  subst ev3
  unfold b_Y_behind_2 nb_Y_behind_2
  refine rf_eq rfl rfl rv3 rv2 ?_ ?_
  · exact rf_ok (by exact ⟨rfl, rv3⟩)
  · refine y_Q hR hy ya52.1 (by decide) ?_
    refine y_aI hR hy ya52 yl52 rfl rv3 (fun h3 h4 => ?_)
    refine rf_eq rfl (e_m 1) h4 (show inR (-1) by decide) ?_ ?_
    · refine y_Q hR hy ya49.1 (by decide) ?_
      refine y_aI hR hy ya49 yl49 rfl rv3 (fun h7 h8 => ?_)
      exact rf_ok (by exact ⟨rfl, h8⟩)
    · exact rf_ok (by exact ⟨rfl, rv3⟩)
noncomputable def NL_Y_behind_2 (v2 : Int) (v3 : Int) (m : YS) : Option (Int) :=
  it (fun s : Int => nb_Y_behind_2 v2 s m) (v3)
theorem fL_Y_behind_2 {w y : Prop} {g : g_S} {n : NS} {m : YS} (hy : y) {xv2 : Int32} {v2 : Int} (ev2 : xv2 = Int32.ofInt v2) (rv2 : inR v2) {xv3 : Int32} {v3 : Int} (ev3 : xv3 = Int32.ofInt v3) (rv3 : inR v3) (hR : RC w y g n m) : Rf (fun a b => RI a b) (L_Y_behind_2 1838 xv2 xv3 g) (NL_Y_behind_2 v2 v3 m) := by
  subst ev2
  subst ev3
  unfold L_Y_behind_2 NL_Y_behind_2
  refine rf_it (I := (fun a b => RI a b)) (fun s t h => ?_) ⟨rfl, rv3⟩
  exact fb_Y_behind_2 hy rfl rv2 h.1 h.2 hR
theorem NL_Y_behind_2_eq (v2 : Int) (v3 : Int) (m : YS) : NL_Y_behind_2 v2 v3 m = itc (nb_Y_behind_2 v2 v3 m) (fun s => NL_Y_behind_2 v2 s m) := it_eq2 (fun s : Int => nb_Y_behind_2 v2 s m) (v3)
noncomputable def nk_Y_behind_27 (v2 : Int) (v3 : Int) (m : YS) : Option (Int) :=
  if v3 = v2 then
    some (-1)
  else
    ix v3 120 <|
    some (m 52 v3)
theorem fk_Y_behind_27 {w y : Prop} {g : g_S} {n : NS} {m : YS} (hy : y) {xv2 : Int32} {v2 : Int} (ev2 : xv2 = Int32.ofInt v2) (rv2 : inR v2) {xv3 : Int32} {v3 : Int} (ev3 : xv3 = Int32.ofInt v3) (rv3 : inR v3) (hR : RC w y g n m) : Rf (fun a b => RI a b) (k_Y_behind_27 1838 xv2 xv3 g) (nk_Y_behind_27 v2 v3 m) := by
  subst ev2
  subst ev3
  unfold k_Y_behind_27 nk_Y_behind_27
  refine rf_eq rfl rfl rv3 rv2 ?_ ?_
  · exact rf_ok (by exact ⟨(e_m 1), (show inR (-1) by decide)⟩)
  · refine y_Q hR hy ya52.1 (by decide) ?_
    refine y_aI hR hy ya52 yl52 rfl rv3 (fun h4 h5 => ?_)
    exact rf_ok (by exact ⟨rfl, h5⟩)
noncomputable def N_Y_behind (v1 : Int) (v2 : Int) (m : YS) : Option (Int) :=
  (NL_Y_behind_2 v2 v1 m).bind <| fun z1 =>
  nk_Y_behind_27 v2 z1 m
theorem f_Y_behind {w y : Prop} {g : g_S} {n : NS} {m : YS} (hy : y) {xv1 : Int32} {v1 : Int} (ev1 : xv1 = Int32.ofInt v1) (rv1 : inR v1) {xv2 : Int32} {v2 : Int} (ev2 : xv2 = Int32.ofInt v2) (rv2 : inR v2) (hR : RC w y g n m) : Rf (fun a b => RI a b) (M_Y_behind 1838 xv1 xv2 g) (N_Y_behind v1 v2 m) := by
  subst ev1
  subst ev2
  unfold M_Y_behind N_Y_behind
  refine rf_bind (fL_Y_behind_2 hy rfl rv2 rfl rv1 hR) (fun a2 z1 h => ?_)
  obtain ⟨rfl, r3⟩ := (show RI a2 z1 from h)
  exact fk_Y_behind_27 hy rfl rv2 rfl r3 hR
noncomputable def N_Y_after (v1 : Int) (v2 : Int) (m : YS) : Option (Int) :=
  ix v1 120 <|
  if (m 50 v1) = (-1) then
    (N_Y_behind v1 v2 m).bind fun z6 =>
    some z6
  else
    ix v1 120 <|
    some (m 50 v1)
theorem f_Y_after {w y : Prop} {g : g_S} {n : NS} {m : YS} (hy : y) {xv1 : Int32} {v1 : Int} (ev1 : xv1 = Int32.ofInt v1) (rv1 : inR v1) {xv2 : Int32} {v2 : Int} (ev2 : xv2 = Int32.ofInt v2) (rv2 : inR v2) (hR : RC w y g n m) : Rf (fun a b => RI a b) (M_Y_after 1838 xv1 xv2 g) (N_Y_after v1 v2 m) := by
  subst ev1
  subst ev2
  unfold M_Y_after N_Y_after
  refine y_Q hR hy ya50.1 (by decide) ?_
  refine y_aI hR hy ya50 yl50 rfl rv1 (fun h2 h3 => ?_)
  refine rf_eq rfl (e_m 1) h3 (show inR (-1) by decide) ?_ ?_
  · refine v_c (y_gt hR hy) ?_
    refine rf_bind (f_Y_behind hy rfl rv1 rfl rv2 hR) (fun a8 z6 h => ?_)
    obtain ⟨rfl, r7⟩ := h
    exact rf_ok (by exact ⟨rfl, r7⟩)
  · refine y_Q hR hy ya50.1 (by decide) ?_
    refine y_aI hR hy ya50 yl50 rfl rv1 (fun h11 h12 => ?_)
    exact rf_ok (by exact ⟨rfl, h12⟩)
noncomputable def N_Y_isThere (v1 : Int) (m : YS) : Option (Int) :=
  ix v1 120 <|
  ix (m 179 v1) 120 <|
  if (m 45 (m 179 v1)) = 0 then
    some 0
  else
    ix v1 120 <|
    ix (m 179 v1) 120 <|
    ix v1 120 <|
    if (m 55 (m 179 v1)) = (m 180 v1) then
      some 1
    else
      some 0
theorem f_Y_isThere {w y : Prop} {g : g_S} {n : NS} {m : YS} (hy : y) {xv1 : Int32} {v1 : Int} (ev1 : xv1 = Int32.ofInt v1) (rv1 : inR v1) (hR : RC w y g n m) : Rf (fun a b => RZ a b) (M_Y_isThere 1838 xv1 g) (N_Y_isThere v1 m) := by
  subst ev1
  unfold M_Y_isThere N_Y_isThere
  refine y_Q hR hy ya45.1 (by decide) ?_
  refine y_Q hR hy ya179.1 (by decide) ?_
  refine y_aI hR hy ya179 yl179 rfl rv1 (fun h3 h4 => ?_)
  refine y_aZ hR hy ya45 yl45 rfl h4 (fun h5 h6 => ?_)
  refine rf_eq rfl (e_n 0) (inZ.r h6) (show inR 0 by decide) ?_ ?_
  · exact rf_ok (by exact ⟨(e_n 0), (.inl rfl)⟩)
  · refine y_Q hR hy ya55.1 (by decide) ?_
    refine y_Q hR hy ya179.1 (by decide) ?_
    refine y_aI hR hy ya179 yl179 rfl rv1 (fun h11 h12 => ?_)
    refine y_aI hR hy ya55 yl55 rfl h12 (fun h13 h14 => ?_)
    refine y_Q hR hy ya180.1 (by decide) ?_
    refine y_aI hR hy ya180 yl180 rfl rv1 (fun h16 h17 => ?_)
    refine rf_eq rfl rfl h14 h17 ?_ ?_
    · exact rf_ok (by exact ⟨(e_n 1), (.inr rfl)⟩)
    · exact rf_ok (by exact ⟨(e_n 0), (.inl rfl)⟩)
noncomputable def N_Y_stepWord (v0 : Int) (m : YS) : Option (Int) :=
  if v0 = 0 then
    some 680116
  else if v0 = 1 then
    some 20546947
  else if v0 = 2 then
    some 4225
  else if v0 = 3 then
    some 12452
  else if v0 = 4 then
    some 12342
  else if v0 = 5 then
    some 487
  else if v0 = 6 then
    some 20647
  else if v0 = 7 then
    some 21168
  else if v0 = 8 then
    some 132274
  else if v0 = 9 then
    some 664631
  else
    some 540307
theorem f_Y_stepWord {w y : Prop} {g : g_S} {n : NS} {m : YS} (hy : y) {xv0 : Int32} {v0 : Int} (ev0 : xv0 = Int32.ofInt v0) (rv0 : inR v0) (hR : RC w y g n m) : Rf (fun a b => RJ a b) (M_Y_stepWord xv0 g) (N_Y_stepWord v0 m) := by
  subst ev0
  unfold M_Y_stepWord N_Y_stepWord
  refine rf_eq rfl (e_n 0) rv0 (show inR 0 by decide) ?_ ?_
  · exact rf_ok (by exact ⟨(f_n 680116), (show inL 680116 by decide)⟩)
  refine rf_eq rfl (e_n 1) rv0 (show inR 1 by decide) ?_ ?_
  · exact rf_ok (by exact ⟨(f_n 20546947), (show inL 20546947 by decide)⟩)
  refine rf_eq rfl (e_n 2) rv0 (show inR 2 by decide) ?_ ?_
  · exact rf_ok (by exact ⟨(f_n 4225), (show inL 4225 by decide)⟩)
  refine rf_eq rfl (e_n 3) rv0 (show inR 3 by decide) ?_ ?_
  · exact rf_ok (by exact ⟨(f_n 12452), (show inL 12452 by decide)⟩)
  refine rf_eq rfl (e_n 4) rv0 (show inR 4 by decide) ?_ ?_
  · exact rf_ok (by exact ⟨(f_n 12342), (show inL 12342 by decide)⟩)
  refine rf_eq rfl (e_n 5) rv0 (show inR 5 by decide) ?_ ?_
  · exact rf_ok (by exact ⟨(f_n 487), (show inL 487 by decide)⟩)
  refine rf_eq rfl (e_n 6) rv0 (show inR 6 by decide) ?_ ?_
  · exact rf_ok (by exact ⟨(f_n 20647), (show inL 20647 by decide)⟩)
  refine rf_eq rfl (e_n 7) rv0 (show inR 7 by decide) ?_ ?_
  · exact rf_ok (by exact ⟨(f_n 21168), (show inL 21168 by decide)⟩)
  refine rf_eq rfl (e_n 8) rv0 (show inR 8 by decide) ?_ ?_
  · exact rf_ok (by exact ⟨(f_n 132274), (show inL 132274 by decide)⟩)
  refine rf_eq rfl (e_n 9) rv0 (show inR 9 by decide) ?_ ?_
  · exact rf_ok (by exact ⟨(f_n 664631), (show inL 664631 by decide)⟩)
  exact rf_ok (by exact ⟨(f_n 540307), (show inL 540307 by decide)⟩)
noncomputable def nb_Y_waitStep_177 (v3 : Int) (v5 : Int) (v6 : Int) (m : YS) : Option ((Int × YS) ⊕ (YS)) :=
  if v6 < v5 then
    ck (60 * (m 166 0)) <|
    ck ((60 * (m 166 0)) + v6) <|
    ck (v3 + 1) <|
    ck ((v3 + 1) + v6) <|
    ix ((v3 + 1) + v6) 2000 <|
    ix ((60 * (m 166 0)) + v6) 1200 <|
    st (yw m 173 ((60 * (m 166 0)) + v6) (m 159 ((v3 + 1) + v6))) fun m12 =>
    ck (v6 + 1) <|
    some (.inl (v6 + 1, m12))
  else
    some (.inr m)
theorem fb_Y_waitStep_177 {w y : Prop} {g : g_S} {n : NS} {m : YS} (hy : y) {xv3 : Int32} {v3 : Int} (ev3 : xv3 = Int32.ofInt v3) (rv3 : inR v3) {xv5 : Int32} {v5 : Int} (ev5 : xv5 = Int32.ofInt v5) (rv5 : inR v5) {xv6 : Int32} {v6 : Int} (ev6 : xv6 = Int32.ofInt v6) (rv6 : inR v6) (hR : RC w y g n m) : Rf (RS (fun a b => RI a.1 b.1 ∧ RC w y a.2 n b.2) (fun a b => RC w y a n b)) (b_Y_waitStep_177 1838 xv3 xv5 xv6 g) (nb_Y_waitStep_177 v3 v5 v6 m) := by
  subst ev3
  subst ev5
  subst ev6
  unfold b_Y_waitStep_177 nb_Y_waitStep_177
  refine rf_lt rfl rfl rv6 rv5 ?_ ?_
  · refine y_Q hR hy ya173.1 (by decide) ?_
    refine y_I hR hy yk166 yt166 (fun h3 => ?_)
    refine rf_ck (fun h4 => ?_)
    refine rf_ck (fun h5 => ?_)
    refine y_Q hR hy ya159.1 (by decide) ?_
    refine rf_ck (fun h7 => ?_)
    refine rf_ck (fun h8 => ?_)
    refine y_aB hR hy ya159 yl159 (e_add (e_add rfl (e_n 1)) rfl) h8 (fun h9 h10 => ?_)
    refine y_sB hR hy ya173 yl173 (e_add (e_mul (e_n 60) rfl) rfl) h5 rfl h10 (fun g14 m12 hR13 => ?_)
    refine rf_ck (fun h15 => ?_)
    exact rf_ok (by exact ⟨⟨(e_add rfl (e_n 1)), h15⟩, hR13⟩)
  · exact rf_ok (by exact hR)
noncomputable def NL_Y_waitStep_177 (v3 : Int) (v5 : Int) (v6 : Int) (m : YS) : Option (YS) :=
  it (fun s : Int × YS => nb_Y_waitStep_177 v3 v5 s.1 s.2) (v6, m)
theorem fL_Y_waitStep_177 {w y : Prop} {g : g_S} {n : NS} {m : YS} (hy : y) {xv3 : Int32} {v3 : Int} (ev3 : xv3 = Int32.ofInt v3) (rv3 : inR v3) {xv5 : Int32} {v5 : Int} (ev5 : xv5 = Int32.ofInt v5) (rv5 : inR v5) {xv6 : Int32} {v6 : Int} (ev6 : xv6 = Int32.ofInt v6) (rv6 : inR v6) (hR : RC w y g n m) : Rf (fun a b => RC w y a n b) (L_Y_waitStep_177 1838 xv3 xv5 xv6 g) (NL_Y_waitStep_177 v3 v5 v6 m) := by
  subst ev3
  subst ev5
  subst ev6
  unfold L_Y_waitStep_177 NL_Y_waitStep_177
  refine rf_it (I := (fun a b => RI a.1 b.1 ∧ RC w y a.2 n b.2)) (fun s t h => ?_) ⟨⟨rfl, rv6⟩, hR⟩
  exact fb_Y_waitStep_177 hy rfl rv3 rfl rv5 h.1.1 h.1.2 h.2
theorem NL_Y_waitStep_177_eq (v3 : Int) (v5 : Int) (v6 : Int) (m : YS) : NL_Y_waitStep_177 v3 v5 v6 m = itc (nb_Y_waitStep_177 v3 v5 v6 m) (fun s => NL_Y_waitStep_177 v3 v5 s.1 s.2) := it_eq2 (fun s : Int × YS => nb_Y_waitStep_177 v3 v5 s.1 s.2) (v6, m)
noncomputable def nb_Y_waitStep_5 (v1 : Int) (v2 : Int) (v3 : Int) (v4 : Int) (m : YS) : Option ((Int × Int) ⊕ (Int × Int)) :=
  if v3 < v2 then
    ix v3 2000 <|
    (N_Y_isDigit (m 159 v3) m).bind fun z6 =>
    if z6 = 0 then
      some (.inr (v3, v4))
    else
      ck (v3 - v1) <|
      if (v3 - v1) < 4 then
        ck (10 * v4) <|
        ix v3 2000 <|
        ck ((10 * v4) + (m 159 v3)) <|
        ck (((10 * v4) + (m 159 v3)) - 48) <|
        ck (v3 + 1) <|
        some (.inl (v3 + 1, ((10 * v4) + (m 159 v3)) - 48))
      else
        some (.inr (v3, v4))
  else
    some (.inr (v3, v4))
theorem fb_Y_waitStep_5 {w y : Prop} {g : g_S} {n : NS} {m : YS} (hy : y) {xv1 : Int32} {v1 : Int} (ev1 : xv1 = Int32.ofInt v1) (rv1 : inR v1) {xv2 : Int32} {v2 : Int} (ev2 : xv2 = Int32.ofInt v2) (rv2 : inR v2) {xv3 : Int32} {v3 : Int} (ev3 : xv3 = Int32.ofInt v3) (rv3 : inR v3) {xv4 : Int32} {v4 : Int} (ev4 : xv4 = Int32.ofInt v4) (rv4 : inR v4) (hR : RC w y g n m) : Rf (RS (fun a b => RI a.1 b.1 ∧ RI a.2 b.2) (fun a b => RI a.1 b.1 ∧ RI a.2 b.2)) (b_Y_waitStep_5 1838 xv1 xv2 xv3 xv4 g) (nb_Y_waitStep_5 v1 v2 v3 v4 m) := by
  subst ev1
  subst ev2
  subst ev3
  subst ev4
  unfold b_Y_waitStep_5 nb_Y_waitStep_5
  refine rf_lt rfl rfl rv3 rv2 ?_ ?_
  · refine y_Q hR hy ya159.1 (by decide) ?_
    refine y_aB hR hy ya159 yl159 rfl rv3 (fun h3 h4 => ?_)
    refine rf_bind (f_Y_isDigit hy rfl (inB.r h4) hR) (fun a8 z6 h => ?_)
    obtain ⟨rfl, r7⟩ := h
    refine rf_eq rfl (e_n 0) (inZ.r r7) (show inR 0 by decide) ?_ ?_
    · exact rf_ok (by exact ⟨⟨rfl, rv3⟩, ⟨rfl, rv4⟩⟩)
    · refine rf_ck (fun h10 => ?_)
      refine rf_lt (e_sub rfl rfl) (e_n 4) h10 (show inR 4 by decide) ?_ ?_
      · refine rf_ck (fun h12 => ?_)
        refine y_Q hR hy ya159.1 (by decide) ?_
        refine y_aB hR hy ya159 yl159 rfl rv3 (fun h14 h15 => ?_)
        refine rf_ck (fun h16 => ?_)
        refine rf_ck (fun h17 => ?_)
        refine rf_ck (fun h18 => ?_)
        exact rf_ok (by exact ⟨⟨(e_add rfl (e_n 1)), h18⟩, ⟨(e_sub (e_add (e_mul (e_n 10) rfl) rfl) (e_n 48)), h17⟩⟩)
      · exact rf_ok (by exact ⟨⟨rfl, rv3⟩, ⟨rfl, rv4⟩⟩)
  · exact rf_ok (by exact ⟨⟨rfl, rv3⟩, ⟨rfl, rv4⟩⟩)
noncomputable def NL_Y_waitStep_5 (v1 : Int) (v2 : Int) (v3 : Int) (v4 : Int) (m : YS) : Option (Int × Int) :=
  it (fun s : Int × Int => nb_Y_waitStep_5 v1 v2 s.1 s.2 m) (v3, v4)
theorem fL_Y_waitStep_5 {w y : Prop} {g : g_S} {n : NS} {m : YS} (hy : y) {xv1 : Int32} {v1 : Int} (ev1 : xv1 = Int32.ofInt v1) (rv1 : inR v1) {xv2 : Int32} {v2 : Int} (ev2 : xv2 = Int32.ofInt v2) (rv2 : inR v2) {xv3 : Int32} {v3 : Int} (ev3 : xv3 = Int32.ofInt v3) (rv3 : inR v3) {xv4 : Int32} {v4 : Int} (ev4 : xv4 = Int32.ofInt v4) (rv4 : inR v4) (hR : RC w y g n m) : Rf (fun a b => RI a.1 b.1 ∧ RI a.2 b.2) (L_Y_waitStep_5 1838 xv1 xv2 xv3 xv4 g) (NL_Y_waitStep_5 v1 v2 v3 v4 m) := by
  subst ev1
  subst ev2
  subst ev3
  subst ev4
  unfold L_Y_waitStep_5 NL_Y_waitStep_5
  refine rf_it (I := (fun a b => RI a.1 b.1 ∧ RI a.2 b.2)) (fun s t h => ?_) ⟨⟨rfl, rv3⟩, ⟨rfl, rv4⟩⟩
  exact fb_Y_waitStep_5 hy rfl rv1 rfl rv2 h.1.1 h.1.2 h.2.1 h.2.2 hR
theorem NL_Y_waitStep_5_eq (v1 : Int) (v2 : Int) (v3 : Int) (v4 : Int) (m : YS) : NL_Y_waitStep_5 v1 v2 v3 v4 m = itc (nb_Y_waitStep_5 v1 v2 v3 v4 m) (fun s => NL_Y_waitStep_5 v1 v2 s.1 s.2 m) := it_eq2 (fun s : Int × Int => nb_Y_waitStep_5 v1 v2 s.1 s.2 m) (v3, v4)
noncomputable def nk_Y_waitStep_52 (v1 : Int) (v2 : Int) (v3 : Int) (v4 : Int) (m : YS) : Option (Int × YS) :=
  if v3 = v1 then
    some (0, m)
  else
    if v3 < v2 then
      ix v3 2000 <|
      if (m 159 v3) = 32 then
        if (m 166 0) = 20 then
          some (1, m)
        else
          ck (v2 - v3) <|
          ck ((v2 - v3) - 1) <|
          ck ((m 25 0) + v4) <|
          ix (m 166 0) 20 <|
          st (yw m 168 (m 166 0) ((m 25 0) + v4)) fun m19 =>
          ix (m19 166 0) 20 <|
          st (yw m19 169 (m19 166 0) (m19 167 0)) fun m26 =>
          ck ((m26 167 0) + 1) <|
          st (yw m26 167 0 ((m26 167 0) + 1)) fun m32 =>
          ix (m32 166 0) 20 <|
          st (yw m32 170 (m32 166 0) (m32 161 0)) fun m39 =>
          ix (m39 166 0) 20 <|
          st (yw m39 171 (m39 166 0) (m39 162 0)) fun m46 =>
          ix (m46 166 0) 20 <|
          st (yw m46 172 (m46 166 0) (min 60 ((v2 - v3) - 1))) fun m52 =>
          (NL_Y_waitStep_177 v3 (min 60 ((v2 - v3) - 1)) 0 m52).bind <| fun m55 =>
          ck ((m55 166 0) + 1) <|
          st (yw m55 166 0 ((m55 166 0) + 1)) fun m61 =>
          some (1, m61)
      else
        some (0, m)
    else
      some (0, m)
theorem fk_Y_waitStep_52 {w y : Prop} {g : g_S} {n : NS} {m : YS} (hy : y) {xv1 : Int32} {v1 : Int} (ev1 : xv1 = Int32.ofInt v1) (rv1 : inR v1) {xv2 : Int32} {v2 : Int} (ev2 : xv2 = Int32.ofInt v2) (rv2 : inR v2) {xv3 : Int32} {v3 : Int} (ev3 : xv3 = Int32.ofInt v3) (rv3 : inR v3) {xv4 : Int32} {v4 : Int} (ev4 : xv4 = Int32.ofInt v4) (rv4 : inR v4) (hR : RC w y g n m) : Rf (fun a b => RZ a.1 b.1 ∧ RC w y a.2 n b.2) (k_Y_waitStep_52 1838 xv1 xv2 xv3 xv4 g) (nk_Y_waitStep_52 v1 v2 v3 v4 m) := by
  subst ev1
  subst ev2
  subst ev3
  subst ev4
  unfold k_Y_waitStep_52 nk_Y_waitStep_52
  refine rf_eq rfl rfl rv3 rv1 ?_ ?_
  · exact rf_ok (by exact ⟨⟨(e_n 0), (.inl rfl)⟩, hR⟩)
  · refine rf_lt rfl rfl rv3 rv2 ?_ ?_
    · refine y_Q hR hy ya159.1 (by decide) ?_
      refine y_aB hR hy ya159 yl159 rfl rv3 (fun h5 h6 => ?_)
      refine rf_eq rfl (e_n 32) (inB.r h6) (show inR 32 by decide) ?_ ?_
      · refine y_I hR hy yk166 yt166 (fun h8 => ?_)
        refine rf_eq rfl (e_n 20) h8 (show inR 20 by decide) ?_ ?_
        · exact rf_ok (by exact ⟨⟨(e_n 1), (.inr rfl)⟩, hR⟩)
        · refine rf_ck (fun h11 => ?_)
          refine rf_ck (fun h12 => ?_)
          refine y_Q hR hy ya168.1 (by decide) ?_
          refine y_I hR hy yk166 yt166 (fun h15 => ?_)
          refine y_I hR hy yk25 yt25 (fun h16 => ?_)
          refine rf_ck (fun h17 => ?_)
          refine y_sI hR hy ya168 yl168 rfl h15 (e_add rfl rfl) h17 (fun g21 m19 hR20 => ?_)
          refine y_Q hR20 hy ya169.1 (by decide) ?_
          refine y_I hR20 hy yk166 yt166 (fun h23 => ?_)
          refine y_I hR20 hy yk167 yt167 (fun h24 => ?_)
          refine y_sI hR20 hy ya169 yl169 rfl h23 rfl h24 (fun g28 m26 hR27 => ?_)
          refine y_I hR27 hy yk167 yt167 (fun h29 => ?_)
          refine rf_ck (fun h30 => ?_)
          refine y_pI hR27 hy yk167 ⟨yt167, yz167⟩ (e_add rfl (e_n 1)) h30 (fun g34 m32 hR33 => ?_)
          refine y_Q hR33 hy ya170.1 (by decide) ?_
          refine y_I hR33 hy yk166 yt166 (fun h36 => ?_)
          refine y_I hR33 hy yk161 yt161 (fun h37 => ?_)
          refine y_sI hR33 hy ya170 yl170 rfl h36 rfl h37 (fun g41 m39 hR40 => ?_)
          refine y_Q hR40 hy ya171.1 (by decide) ?_
          refine y_I hR40 hy yk166 yt166 (fun h43 => ?_)
          refine y_I hR40 hy yk162 yt162 (fun h44 => ?_)
          refine y_sI hR40 hy ya171 yl171 rfl h43 rfl h44 (fun g48 m46 hR47 => ?_)
          refine y_Q hR47 hy ya172.1 (by decide) ?_
          refine y_I hR47 hy yk166 yt166 (fun h50 => ?_)
          refine y_sI hR47 hy ya172 yl172 rfl h50 (e_mn (e_n 60) (e_sub (e_sub rfl rfl) (e_n 1)) (show inR 60 by decide) h12) (min_r (show inR 60 by decide) h12) (fun g54 m52 hR53 => ?_)
          refine rf_bind (fL_Y_waitStep_177 hy rfl rv3 (e_mn (e_n 60) (e_sub (e_sub rfl rfl) (e_n 1)) (show inR 60 by decide) h12) (min_r (show inR 60 by decide) h12) (e_n 0) (show inR 0 by decide) hR53) (fun a56 m55 h => ?_)
          have hR57 : RC w y a56 n m55 := h
          refine y_I hR57 hy yk166 yt166 (fun h58 => ?_)
          refine rf_ck (fun h59 => ?_)
          refine y_pI hR57 hy yk166 ⟨yt166, yz166⟩ (e_add rfl (e_n 1)) h59 (fun g63 m61 hR62 => ?_)
          exact rf_ok (by exact ⟨⟨(e_n 1), (.inr rfl)⟩, hR62⟩)
      · exact rf_ok (by exact ⟨⟨(e_n 0), (.inl rfl)⟩, hR⟩)
    · exact rf_ok (by exact ⟨⟨(e_n 0), (.inl rfl)⟩, hR⟩)
noncomputable def N_Y_waitStep (v1 : Int) (v2 : Int) (m : YS) : Option (Int × YS) :=
  (NL_Y_waitStep_5 v1 v2 v1 0 m).bind <| u2 fun z1 z2 =>
  nk_Y_waitStep_52 v1 v2 z1 z2 m
theorem f_Y_waitStep {w y : Prop} {g : g_S} {n : NS} {m : YS} (hy : y) {xv1 : Int32} {v1 : Int} (ev1 : xv1 = Int32.ofInt v1) (rv1 : inR v1) {xv2 : Int32} {v2 : Int} (ev2 : xv2 = Int32.ofInt v2) (rv2 : inR v2) (hR : RC w y g n m) : Rf (fun a b => RZ a.1 b.1 ∧ RC w y a.2 n b.2) (M_Y_waitStep 1838 xv1 xv2 g) (N_Y_waitStep v1 v2 m) := by
  subst ev1
  subst ev2
  unfold M_Y_waitStep N_Y_waitStep
  refine rf_bind (fL_Y_waitStep_5 hy rfl rv1 rfl rv2 rfl rv1 (e_n 0) (show inR 0 by decide) hR) (fun a b h => ?_)
  obtain ⟨a3, a4⟩ := a
  obtain ⟨z1, z2⟩ := b
  refine rf_u2 ?_
  obtain ⟨rfl, r5⟩ := (show RI a3 z1 from h.1)
  obtain ⟨rfl, r6⟩ := (show RI a4 z2 from h.2)
  exact fk_Y_waitStep_52 hy rfl rv1 rfl rv2 rfl r5 rfl r6 hR
noncomputable def nb_Y_stored_11 (v1 : Int) (v2 : Int) (v3 : Int) (v4 : Int) (m : YS) : Option ((Int) ⊕ ((Int) ⊕ (Unit))) :=
  if v4 < (m 174 0) then
    ix v4 20 <|
    if (m 176 v4) = v3 then
      ck (24 * v4) <|
      (N_Y_same 175 (24 * v4) 6 152 v3 m).bind fun z11 =>
      if z11 = 0 then
        ck (v4 + 1) <|
        some (.inl (v4 + 1))
      else
        ix v4 20 <|
        if (m 177 v4) = v2 then
          ck (24 * v4) <|
          ck ((24 * v4) + 8) <|
          (N_Y_same 175 ((24 * v4) + 8) 159 v1 v2 m).bind fun z25 =>
          if z25 = 0 then
            ck (v4 + 1) <|
            some (.inl (v4 + 1))
          else
            some (.inr (.inl v4))
        else
          ck (v4 + 1) <|
          some (.inl (v4 + 1))
    else
      ck (v4 + 1) <|
      some (.inl (v4 + 1))
  else
    some (.inr (.inr ()))
theorem fb_Y_stored_11 {w y : Prop} {g : g_S} {n : NS} {m : YS} (hy : y) {xv1 : Int32} {v1 : Int} (ev1 : xv1 = Int32.ofInt v1) (rv1 : inR v1) {xv2 : Int32} {v2 : Int} (ev2 : xv2 = Int32.ofInt v2) (rv2 : inR v2) {xv3 : Int32} {v3 : Int} (ev3 : xv3 = Int32.ofInt v3) (rv3 : inR v3) {xv4 : Int32} {v4 : Int} (ev4 : xv4 = Int32.ofInt v4) (rv4 : inR v4) (hR : RC w y g n m) : Rf (RS (fun a b => RI a b) (RS (fun a b => RI a b) (fun _ _ => True))) (b_Y_stored_11 1838 xv1 xv2 xv3 xv4 g) (nb_Y_stored_11 v1 v2 v3 v4 m) := by
  subst ev1
  subst ev2
  subst ev3
  subst ev4
  unfold b_Y_stored_11 nb_Y_stored_11
  refine y_I hR hy yk174 yt174 (fun h1 => ?_)
  refine rf_lt rfl rfl rv4 h1 ?_ ?_
  · refine y_Q hR hy ya176.1 (by decide) ?_
    refine y_aI hR hy ya176 yl176 rfl rv4 (fun h4 h5 => ?_)
    refine rf_eq rfl rfl h5 rv3 ?_ ?_
    · refine y_Q hR hy ya175.1 (by decide) ?_
      refine rf_ck (fun h8 => ?_)
      refine y_Q hR hy ya6.1 (by decide) ?_
      refine rf_bind (f_Y_same hy rfl ya175 (e_mul (e_n 24) rfl) h8 rfl ya6 (e_n 152) (show inR 152 by decide) rfl rv3 hR) (fun a13 z11 h => ?_)
      obtain ⟨rfl, r12⟩ := h
      refine rf_eq rfl (e_n 0) (inZ.r r12) (show inR 0 by decide) ?_ ?_
      · refine rf_ck (fun h15 => ?_)
        exact rf_ok (by exact ⟨(e_add rfl (e_n 1)), h15⟩)
      · refine y_Q hR hy ya177.1 (by decide) ?_
        refine y_aI hR hy ya177 yl177 rfl rv4 (fun h17 h18 => ?_)
        refine rf_eq rfl rfl h18 rv2 ?_ ?_
        · refine y_Q hR hy ya175.1 (by decide) ?_
          refine rf_ck (fun h21 => ?_)
          refine rf_ck (fun h22 => ?_)
          refine y_Q hR hy ya159.1 (by decide) ?_
          refine rf_bind (f_Y_same hy rfl ya175 (e_add (e_mul (e_n 24) rfl) (e_n 8)) h22 rfl ya159 rfl rv1 rfl rv2 hR) (fun a27 z25 h => ?_)
          obtain ⟨rfl, r26⟩ := h
          refine rf_eq rfl (e_n 0) (inZ.r r26) (show inR 0 by decide) ?_ ?_
          · refine rf_ck (fun h29 => ?_)
            exact rf_ok (by exact ⟨(e_add rfl (e_n 1)), h29⟩)
          · exact rf_ok (by exact ⟨rfl, rv4⟩)
        · refine rf_ck (fun h30 => ?_)
          exact rf_ok (by exact ⟨(e_add rfl (e_n 1)), h30⟩)
    · refine rf_ck (fun h31 => ?_)
      exact rf_ok (by exact ⟨(e_add rfl (e_n 1)), h31⟩)
  · exact rf_ok (by exact trivial)
noncomputable def NL_Y_stored_11 (v1 : Int) (v2 : Int) (v3 : Int) (v4 : Int) (m : YS) : Option ((Int) ⊕ (Unit)) :=
  it (fun s : Int => nb_Y_stored_11 v1 v2 v3 s m) (v4)
theorem fL_Y_stored_11 {w y : Prop} {g : g_S} {n : NS} {m : YS} (hy : y) {xv1 : Int32} {v1 : Int} (ev1 : xv1 = Int32.ofInt v1) (rv1 : inR v1) {xv2 : Int32} {v2 : Int} (ev2 : xv2 = Int32.ofInt v2) (rv2 : inR v2) {xv3 : Int32} {v3 : Int} (ev3 : xv3 = Int32.ofInt v3) (rv3 : inR v3) {xv4 : Int32} {v4 : Int} (ev4 : xv4 = Int32.ofInt v4) (rv4 : inR v4) (hR : RC w y g n m) : Rf (RS (fun a b => RI a b) (fun _ _ => True)) (L_Y_stored_11 1838 xv1 xv2 xv3 xv4 g) (NL_Y_stored_11 v1 v2 v3 v4 m) := by
  subst ev1
  subst ev2
  subst ev3
  subst ev4
  unfold L_Y_stored_11 NL_Y_stored_11
  refine rf_it (I := (fun a b => RI a b)) (fun s t h => ?_) ⟨rfl, rv4⟩
  exact fb_Y_stored_11 hy rfl rv1 rfl rv2 rfl rv3 h.1 h.2 hR
theorem NL_Y_stored_11_eq (v1 : Int) (v2 : Int) (v3 : Int) (v4 : Int) (m : YS) : NL_Y_stored_11 v1 v2 v3 v4 m = itc (nb_Y_stored_11 v1 v2 v3 v4 m) (fun s => NL_Y_stored_11 v1 v2 v3 s m) := it_eq2 (fun s : Int => nb_Y_stored_11 v1 v2 v3 s m) (v4)
noncomputable def N_Y_stored (v1 : Int) (v2 : Int) (m : YS) : Option (Int) :=
  (N_Y_siteEnd 1 m).bind fun z2 =>
  ck (z2 - 2) <|
  (NL_Y_stored_11 v1 v2 (z2 - 2) 0 m).bind <|
    us (fun z6 =>
    some z6)
    (fun _ =>
    some (-1))
theorem f_Y_stored {w y : Prop} {g : g_S} {n : NS} {m : YS} (hy : y) {xv1 : Int32} {v1 : Int} (ev1 : xv1 = Int32.ofInt v1) (rv1 : inR v1) {xv2 : Int32} {v2 : Int} (ev2 : xv2 = Int32.ofInt v2) (rv2 : inR v2) (hR : RC w y g n m) : Rf (fun a b => RI a b) (M_Y_stored 1838 xv1 xv2 g) (N_Y_stored v1 v2 m) := by
  subst ev1
  subst ev2
  unfold M_Y_stored N_Y_stored
  refine v_c (y_gt hR hy) ?_
  refine rf_bind (f_Y_siteEnd hy (e_n 1) (show inR 1 by decide) hR) (fun a4 z2 h => ?_)
  obtain ⟨rfl, r3⟩ := h
  refine rf_ck (fun h5 => ?_)
  refine rf_bind (fL_Y_stored_11 hy rfl rv1 rfl rv2 (e_sub rfl (e_n 2)) h5 (e_n 0) (show inR 0 by decide) hR) (fun a b h => rf_us h (fun a7 z6 h => ?_) (fun a b h => ?_))
  · obtain ⟨rfl, r8⟩ := (show RI a7 z6 from h)
    exact rf_ok (by exact ⟨rfl, r8⟩)
  · exact rf_ok (by exact ⟨(e_m 1), (show inR (-1) by decide)⟩)
noncomputable def nb_Y_putStep_117 (v1 : Int) (v2 : Int) (v3 : Int) (v5 : Int) (v6 : Int) (m : YS) : Option ((Int × YS) ⊕ (YS)) :=
  ix v5 20 <|
  if v6 < (m 176 v5) then
    ck (24 * v5) <|
    ck ((24 * v5) + v6) <|
    ck (152 + v6) <|
    ix (152 + v6) 9900 <|
    ix ((24 * v5) + v6) 480 <|
    st (yw m 175 ((24 * v5) + v6) (m 6 (152 + v6))) fun m13 =>
    ck (v6 + 1) <|
    some (.inl (v6 + 1, m13))
  else
    some (.inr m)
theorem fb_Y_putStep_117 {w y : Prop} {g : g_S} {n : NS} {m : YS} (hy : y) {xv1 : Int32} {v1 : Int} (ev1 : xv1 = Int32.ofInt v1) (rv1 : inR v1) {xv2 : Int32} {v2 : Int} (ev2 : xv2 = Int32.ofInt v2) (rv2 : inR v2) {xv3 : Int32} {v3 : Int} (ev3 : xv3 = Int32.ofInt v3) (rv3 : inR v3) {xv5 : Int32} {v5 : Int} (ev5 : xv5 = Int32.ofInt v5) (rv5 : inR v5) {xv6 : Int32} {v6 : Int} (ev6 : xv6 = Int32.ofInt v6) (rv6 : inR v6) (hR : RC w y g n m) : Rf (RS (fun a b => RI a.1 b.1 ∧ RC w y a.2 n b.2) (fun a b => RC w y a n b)) (b_Y_putStep_117 1838 xv1 xv2 xv3 xv5 xv6 g) (nb_Y_putStep_117 v1 v2 v3 v5 v6 m) := by
  subst ev1
  subst ev2
  subst ev3
  subst ev5
  subst ev6
  unfold b_Y_putStep_117 nb_Y_putStep_117
  refine y_Q hR hy ya176.1 (by decide) ?_
  refine y_aI hR hy ya176 yl176 rfl rv5 (fun h2 h3 => ?_)
  refine rf_lt rfl rfl rv6 h3 ?_ ?_
  · refine y_Q hR hy ya175.1 (by decide) ?_
    refine rf_ck (fun h6 => ?_)
    refine rf_ck (fun h7 => ?_)
    refine y_Q hR hy ya6.1 (by decide) ?_
    refine rf_ck (fun h9 => ?_)
    refine y_aB hR hy ya6 yl6 (e_add (e_n 152) rfl) h9 (fun h10 h11 => ?_)
    refine y_sB hR hy ya175 yl175 (e_add (e_mul (e_n 24) rfl) rfl) h7 rfl h11 (fun g15 m13 hR14 => ?_)
    refine rf_ck (fun h16 => ?_)
    exact rf_ok (by exact ⟨⟨(e_add rfl (e_n 1)), h16⟩, hR14⟩)
  · exact rf_ok (by exact hR)
noncomputable def NL_Y_putStep_117 (v1 : Int) (v2 : Int) (v3 : Int) (v5 : Int) (v6 : Int) (m : YS) : Option (YS) :=
  it (fun s : Int × YS => nb_Y_putStep_117 v1 v2 v3 v5 s.1 s.2) (v6, m)
theorem fL_Y_putStep_117 {w y : Prop} {g : g_S} {n : NS} {m : YS} (hy : y) {xv1 : Int32} {v1 : Int} (ev1 : xv1 = Int32.ofInt v1) (rv1 : inR v1) {xv2 : Int32} {v2 : Int} (ev2 : xv2 = Int32.ofInt v2) (rv2 : inR v2) {xv3 : Int32} {v3 : Int} (ev3 : xv3 = Int32.ofInt v3) (rv3 : inR v3) {xv5 : Int32} {v5 : Int} (ev5 : xv5 = Int32.ofInt v5) (rv5 : inR v5) {xv6 : Int32} {v6 : Int} (ev6 : xv6 = Int32.ofInt v6) (rv6 : inR v6) (hR : RC w y g n m) : Rf (fun a b => RC w y a n b) (L_Y_putStep_117 1838 xv1 xv2 xv3 xv5 xv6 g) (NL_Y_putStep_117 v1 v2 v3 v5 v6 m) := by
  subst ev1
  subst ev2
  subst ev3
  subst ev5
  subst ev6
  unfold L_Y_putStep_117 NL_Y_putStep_117
  refine rf_it (I := (fun a b => RI a.1 b.1 ∧ RC w y a.2 n b.2)) (fun s t h => ?_) ⟨⟨rfl, rv6⟩, hR⟩
  exact fb_Y_putStep_117 hy rfl rv1 rfl rv2 rfl rv3 rfl rv5 h.1.1 h.1.2 h.2
theorem NL_Y_putStep_117_eq (v1 : Int) (v2 : Int) (v3 : Int) (v5 : Int) (v6 : Int) (m : YS) : NL_Y_putStep_117 v1 v2 v3 v5 v6 m = itc (nb_Y_putStep_117 v1 v2 v3 v5 v6 m) (fun s => NL_Y_putStep_117 v1 v2 v3 v5 s.1 s.2) := it_eq2 (fun s : Int × YS => nb_Y_putStep_117 v1 v2 v3 v5 s.1 s.2) (v6, m)
noncomputable def nb_Y_putStep_162 (v1 : Int) (v2 : Int) (v3 : Int) (v5 : Int) (v6 : Int) (m : YS) : Option ((Int × YS) ⊕ (YS)) :=
  ix v5 20 <|
  if v6 < (m 177 v5) then
    ck (24 * v5) <|
    ck ((24 * v5) + 8) <|
    ck (((24 * v5) + 8) + v6) <|
    ck (v1 + v6) <|
    ix (v1 + v6) 2000 <|
    ix (((24 * v5) + 8) + v6) 480 <|
    st (yw m 175 (((24 * v5) + 8) + v6) (m 159 (v1 + v6))) fun m14 =>
    ck (v6 + 1) <|
    some (.inl (v6 + 1, m14))
  else
    some (.inr m)
theorem fb_Y_putStep_162 {w y : Prop} {g : g_S} {n : NS} {m : YS} (hy : y) {xv1 : Int32} {v1 : Int} (ev1 : xv1 = Int32.ofInt v1) (rv1 : inR v1) {xv2 : Int32} {v2 : Int} (ev2 : xv2 = Int32.ofInt v2) (rv2 : inR v2) {xv3 : Int32} {v3 : Int} (ev3 : xv3 = Int32.ofInt v3) (rv3 : inR v3) {xv5 : Int32} {v5 : Int} (ev5 : xv5 = Int32.ofInt v5) (rv5 : inR v5) {xv6 : Int32} {v6 : Int} (ev6 : xv6 = Int32.ofInt v6) (rv6 : inR v6) (hR : RC w y g n m) : Rf (RS (fun a b => RI a.1 b.1 ∧ RC w y a.2 n b.2) (fun a b => RC w y a n b)) (b_Y_putStep_162 1838 xv1 xv2 xv3 xv5 xv6 g) (nb_Y_putStep_162 v1 v2 v3 v5 v6 m) := by
  subst ev1
  subst ev2
  subst ev3
  subst ev5
  subst ev6
  unfold b_Y_putStep_162 nb_Y_putStep_162
  refine y_Q hR hy ya177.1 (by decide) ?_
  refine y_aI hR hy ya177 yl177 rfl rv5 (fun h2 h3 => ?_)
  refine rf_lt rfl rfl rv6 h3 ?_ ?_
  · refine y_Q hR hy ya175.1 (by decide) ?_
    refine rf_ck (fun h6 => ?_)
    refine rf_ck (fun h7 => ?_)
    refine rf_ck (fun h8 => ?_)
    refine y_Q hR hy ya159.1 (by decide) ?_
    refine rf_ck (fun h10 => ?_)
    refine y_aB hR hy ya159 yl159 (e_add rfl rfl) h10 (fun h11 h12 => ?_)
    refine y_sB hR hy ya175 yl175 (e_add (e_add (e_mul (e_n 24) rfl) (e_n 8)) rfl) h8 rfl h12 (fun g16 m14 hR15 => ?_)
    refine rf_ck (fun h17 => ?_)
    exact rf_ok (by exact ⟨⟨(e_add rfl (e_n 1)), h17⟩, hR15⟩)
  · exact rf_ok (by exact hR)
noncomputable def NL_Y_putStep_162 (v1 : Int) (v2 : Int) (v3 : Int) (v5 : Int) (v6 : Int) (m : YS) : Option (YS) :=
  it (fun s : Int × YS => nb_Y_putStep_162 v1 v2 v3 v5 s.1 s.2) (v6, m)
theorem fL_Y_putStep_162 {w y : Prop} {g : g_S} {n : NS} {m : YS} (hy : y) {xv1 : Int32} {v1 : Int} (ev1 : xv1 = Int32.ofInt v1) (rv1 : inR v1) {xv2 : Int32} {v2 : Int} (ev2 : xv2 = Int32.ofInt v2) (rv2 : inR v2) {xv3 : Int32} {v3 : Int} (ev3 : xv3 = Int32.ofInt v3) (rv3 : inR v3) {xv5 : Int32} {v5 : Int} (ev5 : xv5 = Int32.ofInt v5) (rv5 : inR v5) {xv6 : Int32} {v6 : Int} (ev6 : xv6 = Int32.ofInt v6) (rv6 : inR v6) (hR : RC w y g n m) : Rf (fun a b => RC w y a n b) (L_Y_putStep_162 1838 xv1 xv2 xv3 xv5 xv6 g) (NL_Y_putStep_162 v1 v2 v3 v5 v6 m) := by
  subst ev1
  subst ev2
  subst ev3
  subst ev5
  subst ev6
  unfold L_Y_putStep_162 NL_Y_putStep_162
  refine rf_it (I := (fun a b => RI a.1 b.1 ∧ RC w y a.2 n b.2)) (fun s t h => ?_) ⟨⟨rfl, rv6⟩, hR⟩
  exact fb_Y_putStep_162 hy rfl rv1 rfl rv2 rfl rv3 rfl rv5 h.1.1 h.1.2 h.2
theorem NL_Y_putStep_162_eq (v1 : Int) (v2 : Int) (v3 : Int) (v5 : Int) (v6 : Int) (m : YS) : NL_Y_putStep_162 v1 v2 v3 v5 v6 m = itc (nb_Y_putStep_162 v1 v2 v3 v5 v6 m) (fun s => NL_Y_putStep_162 v1 v2 v3 v5 s.1 s.2) := it_eq2 (fun s : Int × YS => nb_Y_putStep_162 v1 v2 v3 v5 s.1 s.2) (v6, m)
noncomputable def nb_Y_putStep_220 (v2 : Int) (v5 : Int) (v6 : Int) (m : YS) : Option ((Int × YS) ⊕ (YS)) :=
  ix v5 20 <|
  if v6 < (m 178 v5) then
    ck (24 * v5) <|
    ck ((24 * v5) + 16) <|
    ck (((24 * v5) + 16) + v6) <|
    ck (v2 + 1) <|
    ck ((v2 + 1) + v6) <|
    ix ((v2 + 1) + v6) 2000 <|
    ix (((24 * v5) + 16) + v6) 480 <|
    st (yw m 175 (((24 * v5) + 16) + v6) (m 159 ((v2 + 1) + v6))) fun m15 =>
    ck (v6 + 1) <|
    some (.inl (v6 + 1, m15))
  else
    some (.inr m)
theorem fb_Y_putStep_220 {w y : Prop} {g : g_S} {n : NS} {m : YS} (hy : y) {xv2 : Int32} {v2 : Int} (ev2 : xv2 = Int32.ofInt v2) (rv2 : inR v2) {xv5 : Int32} {v5 : Int} (ev5 : xv5 = Int32.ofInt v5) (rv5 : inR v5) {xv6 : Int32} {v6 : Int} (ev6 : xv6 = Int32.ofInt v6) (rv6 : inR v6) (hR : RC w y g n m) : Rf (RS (fun a b => RI a.1 b.1 ∧ RC w y a.2 n b.2) (fun a b => RC w y a n b)) (b_Y_putStep_220 1838 xv2 xv5 xv6 g) (nb_Y_putStep_220 v2 v5 v6 m) := by
  subst ev2
  subst ev5
  subst ev6
  unfold b_Y_putStep_220 nb_Y_putStep_220
  refine y_Q hR hy ya178.1 (by decide) ?_
  refine y_aI hR hy ya178 yl178 rfl rv5 (fun h2 h3 => ?_)
  refine rf_lt rfl rfl rv6 h3 ?_ ?_
  · refine y_Q hR hy ya175.1 (by decide) ?_
    refine rf_ck (fun h6 => ?_)
    refine rf_ck (fun h7 => ?_)
    refine rf_ck (fun h8 => ?_)
    refine y_Q hR hy ya159.1 (by decide) ?_
    refine rf_ck (fun h10 => ?_)
    refine rf_ck (fun h11 => ?_)
    refine y_aB hR hy ya159 yl159 (e_add (e_add rfl (e_n 1)) rfl) h11 (fun h12 h13 => ?_)
    refine y_sB hR hy ya175 yl175 (e_add (e_add (e_mul (e_n 24) rfl) (e_n 16)) rfl) h8 rfl h13 (fun g17 m15 hR16 => ?_)
    refine rf_ck (fun h18 => ?_)
    exact rf_ok (by exact ⟨⟨(e_add rfl (e_n 1)), h18⟩, hR16⟩)
  · exact rf_ok (by exact hR)
noncomputable def NL_Y_putStep_220 (v2 : Int) (v5 : Int) (v6 : Int) (m : YS) : Option (YS) :=
  it (fun s : Int × YS => nb_Y_putStep_220 v2 v5 s.1 s.2) (v6, m)
theorem fL_Y_putStep_220 {w y : Prop} {g : g_S} {n : NS} {m : YS} (hy : y) {xv2 : Int32} {v2 : Int} (ev2 : xv2 = Int32.ofInt v2) (rv2 : inR v2) {xv5 : Int32} {v5 : Int} (ev5 : xv5 = Int32.ofInt v5) (rv5 : inR v5) {xv6 : Int32} {v6 : Int} (ev6 : xv6 = Int32.ofInt v6) (rv6 : inR v6) (hR : RC w y g n m) : Rf (fun a b => RC w y a n b) (L_Y_putStep_220 1838 xv2 xv5 xv6 g) (NL_Y_putStep_220 v2 v5 v6 m) := by
  subst ev2
  subst ev5
  subst ev6
  unfold L_Y_putStep_220 NL_Y_putStep_220
  refine rf_it (I := (fun a b => RI a.1 b.1 ∧ RC w y a.2 n b.2)) (fun s t h => ?_) ⟨⟨rfl, rv6⟩, hR⟩
  exact fb_Y_putStep_220 hy rfl rv2 rfl rv5 h.1.1 h.1.2 h.2
theorem NL_Y_putStep_220_eq (v2 : Int) (v5 : Int) (v6 : Int) (m : YS) : NL_Y_putStep_220 v2 v5 v6 m = itc (nb_Y_putStep_220 v2 v5 v6 m) (fun s => NL_Y_putStep_220 v2 v5 s.1 s.2) := it_eq2 (fun s : Int × YS => nb_Y_putStep_220 v2 v5 s.1 s.2) (v6, m)
noncomputable def nk_Y_putStep_205 (v2 : Int) (v3 : Int) (v5 : Int) (m : YS) : Option (Int × YS) :=
  ck (v3 - v2) <|
  ck ((v3 - v2) - 1) <|
  ix v5 20 <|
  st (yw m 178 v5 ((v3 - v2) - 1)) fun m5 =>
  (NL_Y_putStep_220 v2 v5 0 m5).bind <| fun m8 =>
  some (1, m8)
theorem fk_Y_putStep_205 {w y : Prop} {g : g_S} {n : NS} {m : YS} (hy : y) {xv2 : Int32} {v2 : Int} (ev2 : xv2 = Int32.ofInt v2) (rv2 : inR v2) {xv3 : Int32} {v3 : Int} (ev3 : xv3 = Int32.ofInt v3) (rv3 : inR v3) {xv5 : Int32} {v5 : Int} (ev5 : xv5 = Int32.ofInt v5) (rv5 : inR v5) (hR : RC w y g n m) : Rf (fun a b => RZ a.1 b.1 ∧ RC w y a.2 n b.2) (k_Y_putStep_205 1838 xv2 xv3 xv5 g) (nk_Y_putStep_205 v2 v3 v5 m) := by
  subst ev2
  subst ev3
  subst ev5
  unfold k_Y_putStep_205 nk_Y_putStep_205
  refine y_Q hR hy ya178.1 (by decide) ?_
  refine rf_ck (fun h2 => ?_)
  refine rf_ck (fun h3 => ?_)
  refine y_sI hR hy ya178 yl178 rfl rv5 (e_sub (e_sub rfl rfl) (e_n 1)) h3 (fun g7 m5 hR6 => ?_)
  refine rf_bind (fL_Y_putStep_220 hy rfl rv2 rfl rv5 (e_n 0) (show inR 0 by decide) hR6) (fun a9 m8 h => ?_)
  have hR10 : RC w y a9 n m8 := h
  exact rf_ok (by exact ⟨⟨(e_n 1), (.inr rfl)⟩, hR10⟩)
noncomputable def N_Y_putStep (v1 : Int) (v2 : Int) (v3 : Int) (m : YS) : Option (Int × YS) :=
  if v2 = v3 then
    some (0, m)
  else
    ix v2 2000 <|
    if (m 159 v2) = 32 then
      ck (v2 + 1) <|
      (N_Y_nameEnd 159 (v2 + 1) v3 m).bind fun z10 =>
      ck (v2 + 1) <|
      if z10 = (v2 + 1) then
        some (0, m)
      else
        if z10 = v3 then
          ck (v2 - v1) <|
          (N_Y_stored v1 (v2 - v1) m).bind fun z19 =>
          if z19 = (-1) then
            if (m 174 0) = 20 then
              some (1, m)
            else
              ck ((m 174 0) + 1) <|
              st (yw m 174 0 ((m 174 0) + 1)) fun m30 =>
              (N_Y_siteEnd 1 m30).bind fun z35 =>
              ck (z35 - 2) <|
              ix (m 174 0) 20 <|
              st (yw m30 176 (m 174 0) (z35 - 2)) fun m40 =>
              ck (v2 - v1) <|
              ix (m 174 0) 20 <|
              st (yw m40 177 (m 174 0) (v2 - v1)) fun m46 =>
              (NL_Y_putStep_117 v1 v2 v3 (m 174 0) 0 m46).bind <| fun m49 =>
              (NL_Y_putStep_162 v1 v2 v3 (m 174 0) 0 m49).bind <| fun m52 =>
              nk_Y_putStep_205 v2 v3 (m 174 0) m52
          else
            nk_Y_putStep_205 v2 v3 z19 m
        else
          some (0, m)
    else
      some (0, m)
theorem f_Y_putStep {w y : Prop} {g : g_S} {n : NS} {m : YS} (hy : y) {xv1 : Int32} {v1 : Int} (ev1 : xv1 = Int32.ofInt v1) (rv1 : inR v1) {xv2 : Int32} {v2 : Int} (ev2 : xv2 = Int32.ofInt v2) (rv2 : inR v2) {xv3 : Int32} {v3 : Int} (ev3 : xv3 = Int32.ofInt v3) (rv3 : inR v3) (hR : RC w y g n m) : Rf (fun a b => RZ a.1 b.1 ∧ RC w y a.2 n b.2) (M_Y_putStep 1838 xv1 xv2 xv3 g) (N_Y_putStep v1 v2 v3 m) := by
  subst ev1
  subst ev2
  subst ev3
  unfold M_Y_putStep N_Y_putStep
  refine rf_eq rfl rfl rv2 rv3 ?_ ?_
  · exact rf_ok (by exact ⟨⟨(e_n 0), (.inl rfl)⟩, hR⟩)
  · refine y_Q hR hy ya159.1 (by decide) ?_
    refine y_aB hR hy ya159 yl159 rfl rv2 (fun h4 h5 => ?_)
    refine rf_eq rfl (e_n 32) (inB.r h5) (show inR 32 by decide) ?_ ?_
    · refine y_Q hR hy ya159.1 (by decide) ?_
      refine rf_ck (fun h8 => ?_)
      refine rf_bind (f_Y_nameEnd hy rfl ya159 (e_add rfl (e_n 1)) h8 rfl rv3 hR) (fun a12 z10 h => ?_)
      obtain ⟨rfl, r11⟩ := h
      refine rf_ck (fun h13 => ?_)
      refine rf_eq rfl (e_add rfl (e_n 1)) r11 h13 ?_ ?_
      · exact rf_ok (by exact ⟨⟨(e_n 0), (.inl rfl)⟩, hR⟩)
      · refine rf_eq rfl rfl r11 rv3 ?_ ?_
        · refine rf_ck (fun h17 => ?_)
          refine v_c (y_gt hR hy) ?_
          refine rf_bind (f_Y_stored hy rfl rv1 (e_sub rfl rfl) h17 hR) (fun a21 z19 h => ?_)
          obtain ⟨rfl, r20⟩ := h
          refine rf_eq rfl (e_m 1) r20 (show inR (-1) by decide) ?_ ?_
          · refine y_I hR hy yk174 yt174 (fun h23 => ?_)
            refine rf_eq rfl (e_n 20) h23 (show inR 20 by decide) ?_ ?_
            · exact rf_ok (by exact ⟨⟨(e_n 1), (.inr rfl)⟩, hR⟩)
            · refine y_I hR hy yk174 yt174 (fun h26 => ?_)
              refine y_I hR hy yk174 yt174 (fun h27 => ?_)
              refine rf_ck (fun h28 => ?_)
              refine y_pI hR hy yk174 ⟨yt174, yz174⟩ (e_add rfl (e_n 1)) h28 (fun g32 m30 hR31 => ?_)
              refine y_Q hR31 hy ya176.1 (by decide) ?_
              refine v_c (y_gt hR31 hy) ?_
              refine rf_bind (f_Y_siteEnd hy (e_n 1) (show inR 1 by decide) hR31) (fun a37 z35 h => ?_)
              obtain ⟨rfl, r36⟩ := h
              refine rf_ck (fun h38 => ?_)
              refine y_sI hR31 hy ya176 yl176 rfl h26 (e_sub rfl (e_n 2)) h38 (fun g42 m40 hR41 => ?_)
              refine y_Q hR41 hy ya177.1 (by decide) ?_
              refine rf_ck (fun h44 => ?_)
              refine y_sI hR41 hy ya177 yl177 rfl h26 (e_sub rfl rfl) h44 (fun g48 m46 hR47 => ?_)
              refine rf_bind (fL_Y_putStep_117 hy rfl rv1 rfl rv2 rfl rv3 rfl h26 (e_n 0) (show inR 0 by decide) hR47) (fun a50 m49 h => ?_)
              have hR51 : RC w y a50 n m49 := h
              refine rf_bind (fL_Y_putStep_162 hy rfl rv1 rfl rv2 rfl rv3 rfl h26 (e_n 0) (show inR 0 by decide) hR51) (fun a53 m52 h => ?_)
              have hR54 : RC w y a53 n m52 := h
              exact fk_Y_putStep_205 hy rfl rv2 rfl rv3 rfl h26 hR54
          · exact fk_Y_putStep_205 hy rfl rv2 rfl rv3 rfl r20 hR
        · exact rf_ok (by exact ⟨⟨(e_n 0), (.inl rfl)⟩, hR⟩)
    · exact rf_ok (by exact ⟨⟨(e_n 0), (.inl rfl)⟩, hR⟩)
noncomputable def N_Y_selfIsThere (m : YS) : Option (Int) :=
  if (m 161 0) = (-1) then
    some 0
  else
    ix (m 161 0) 120 <|
    if (m 45 (m 161 0)) = 0 then
      some 0
    else
      ix (m 161 0) 120 <|
      if (m 55 (m 161 0)) = (m 162 0) then
        some 1
      else
        some 0
theorem f_Y_selfIsThere {w y : Prop} {g : g_S} {n : NS} {m : YS} (hy : y) (hR : RC w y g n m) : Rf (fun a b => RZ a b) (M_Y_selfIsThere 1838 g) (N_Y_selfIsThere m) := by
  unfold M_Y_selfIsThere N_Y_selfIsThere
  refine y_I hR hy yk161 yt161 (fun h1 => ?_)
  refine rf_eq rfl (e_m 1) h1 (show inR (-1) by decide) ?_ ?_
  · exact rf_ok (by exact ⟨(e_n 0), (.inl rfl)⟩)
  · refine y_Q hR hy ya45.1 (by decide) ?_
    refine y_I hR hy yk161 yt161 (fun h5 => ?_)
    refine y_aZ hR hy ya45 yl45 rfl h5 (fun h6 h7 => ?_)
    refine rf_eq rfl (e_n 0) (inZ.r h7) (show inR 0 by decide) ?_ ?_
    · exact rf_ok (by exact ⟨(e_n 0), (.inl rfl)⟩)
    · refine y_Q hR hy ya55.1 (by decide) ?_
      refine y_I hR hy yk161 yt161 (fun h11 => ?_)
      refine y_aI hR hy ya55 yl55 rfl h11 (fun h12 h13 => ?_)
      refine y_I hR hy yk162 yt162 (fun h14 => ?_)
      refine rf_eq rfl rfl h13 h14 ?_ ?_
      · exact rf_ok (by exact ⟨(e_n 1), (.inr rfl)⟩)
      · exact rf_ok (by exact ⟨(e_n 0), (.inl rfl)⟩)
noncomputable def nk_Y_nodeOf_114 (v1 : Int) (v2 : Int) (v3 : Int) (m : YS) : Option ((Int) ⊕ ((Int) ⊕ (Unit))) :=
  (N_Y_after v3 0 m).bind fun z2 =>
  some (.inl z2)
theorem fk_Y_nodeOf_114 {w y : Prop} {g : g_S} {n : NS} {m : YS} (hy : y) {xv1 : Int32} {v1 : Int} (ev1 : xv1 = Int32.ofInt v1) (rv1 : inR v1) {xv2 : Int32} {v2 : Int} (ev2 : xv2 = Int32.ofInt v2) (rv2 : inR v2) {xv3 : Int32} {v3 : Int} (ev3 : xv3 = Int32.ofInt v3) (rv3 : inR v3) (hR : RC w y g n m) : Rf (RS (fun a b => RI a b) (RS (fun a b => RI a b) (fun _ _ => True))) (k_Y_nodeOf_114 1838 xv1 xv2 xv3 g) (nk_Y_nodeOf_114 v1 v2 v3 m) := by
  subst ev1
  subst ev2
  subst ev3
  unfold k_Y_nodeOf_114 nk_Y_nodeOf_114
  refine v_c (y_gt hR hy) ?_
  refine rf_bind (f_Y_after hy rfl rv3 (e_n 0) (show inR 0 by decide) hR) (fun a4 z2 h => ?_)
  obtain ⟨rfl, r3⟩ := h
  exact rf_ok (by exact ⟨rfl, r3⟩)
noncomputable def nk_Y_nodeOf_68 (v1 : Int) (v2 : Int) (v3 : Int) (w0 : Int) (m : YS) : Option ((Int) ⊕ ((Int) ⊕ (Unit))) :=
  if w0 = (-1) then
    nk_Y_nodeOf_114 v1 v2 v3 m
  else
    ix w0 480 <|
    ck (v2 - v1) <|
    if (m 60 w0) = (v2 - v1) then
      ck (60 * w0) <|
      ck (v2 - v1) <|
      (N_Y_same 59 (60 * w0) 159 v1 (v2 - v1) m).bind fun z12 =>
      if z12 = 0 then
        nk_Y_nodeOf_114 v1 v2 v3 m
      else
        some (.inr (.inl v3))
    else
      nk_Y_nodeOf_114 v1 v2 v3 m
theorem fk_Y_nodeOf_68 {w y : Prop} {g : g_S} {n : NS} {m : YS} (hy : y) {xv1 : Int32} {v1 : Int} (ev1 : xv1 = Int32.ofInt v1) (rv1 : inR v1) {xv2 : Int32} {v2 : Int} (ev2 : xv2 = Int32.ofInt v2) (rv2 : inR v2) {xv3 : Int32} {v3 : Int} (ev3 : xv3 = Int32.ofInt v3) (rv3 : inR v3) {xw0 : Int32} {w0 : Int} (ew0 : xw0 = Int32.ofInt w0) (rw0 : inR w0) (hR : RC w y g n m) : Rf (RS (fun a b => RI a b) (RS (fun a b => RI a b) (fun _ _ => True))) (k_Y_nodeOf_68 1838 xv1 xv2 xv3 xw0 g) (nk_Y_nodeOf_68 v1 v2 v3 w0 m) := by
  subst ev1
  subst ev2
  subst ev3
  subst ew0
  unfold k_Y_nodeOf_68 nk_Y_nodeOf_68
  refine rf_eq rfl (e_m 1) rw0 (show inR (-1) by decide) ?_ ?_
  · exact fk_Y_nodeOf_114 hy rfl rv1 rfl rv2 rfl rv3 hR
  · refine y_Q hR hy ya60.1 (by decide) ?_
    refine y_aI hR hy ya60 yl60 rfl rw0 (fun h3 h4 => ?_)
    refine rf_ck (fun h5 => ?_)
    refine rf_eq rfl (e_sub rfl rfl) h4 h5 ?_ ?_
    · refine y_Q hR hy ya59.1 (by decide) ?_
      refine rf_ck (fun h8 => ?_)
      refine y_Q hR hy ya159.1 (by decide) ?_
      refine rf_ck (fun h10 => ?_)
      refine rf_bind (f_Y_same hy rfl ya59 (e_mul (e_n 60) rfl) h8 rfl ya159 rfl rv1 (e_sub rfl rfl) h10 hR) (fun a14 z12 h => ?_)
      obtain ⟨rfl, r13⟩ := h
      refine rf_eq rfl (e_n 0) (inZ.r r13) (show inR 0 by decide) ?_ ?_
      · exact fk_Y_nodeOf_114 hy rfl rv1 rfl rv2 rfl rv3 hR
      · exact rf_ok (by exact ⟨rfl, rv3⟩)
    · exact fk_Y_nodeOf_114 hy rfl rv1 rfl rv2 rfl rv3 hR
noncomputable def nb_Y_nodeOf_40 (v1 : Int) (v2 : Int) (v3 : Int) (m : YS) : Option ((Int) ⊕ ((Int) ⊕ (Unit))) :=
  if v3 = (-1) then
    some (.inr (.inr ()))
  else
    ix v3 120 <|
    if (m 46 v3) = 17 then
      nk_Y_nodeOf_68 v1 v2 v3 (-1) m
    else
      (N_Y_attributeOf v3 137 m).bind fun z8 =>
      nk_Y_nodeOf_68 v1 v2 v3 z8 m
theorem fb_Y_nodeOf_40 {w y : Prop} {g : g_S} {n : NS} {m : YS} (hy : y) {xv1 : Int32} {v1 : Int} (ev1 : xv1 = Int32.ofInt v1) (rv1 : inR v1) {xv2 : Int32} {v2 : Int} (ev2 : xv2 = Int32.ofInt v2) (rv2 : inR v2) {xv3 : Int32} {v3 : Int} (ev3 : xv3 = Int32.ofInt v3) (rv3 : inR v3) (hR : RC w y g n m) : Rf (RS (fun a b => RI a b) (RS (fun a b => RI a b) (fun _ _ => True))) (b_Y_nodeOf_40 1838 xv1 xv2 xv3 g) (nb_Y_nodeOf_40 v1 v2 v3 m) := by
  subst ev1
  subst ev2
  subst ev3
  unfold b_Y_nodeOf_40 nb_Y_nodeOf_40
  refine rf_eq rfl (e_m 1) rv3 (show inR (-1) by decide) ?_ ?_
  · exact rf_ok (by exact trivial)
  · refine y_Q hR hy ya46.1 (by decide) ?_
    refine y_aI hR hy ya46 yl46 rfl rv3 (fun h3 h4 => ?_)
    refine rf_eq rfl (e_n 17) h4 (show inR 17 by decide) ?_ ?_
    · exact fk_Y_nodeOf_68 hy rfl rv1 rfl rv2 rfl rv3 (e_m 1) (show inR (-1) by decide) hR
    · refine v_c (y_gt hR hy) ?_
      refine rf_bind (f_Y_attributeOf hy rfl rv3 (f_n 137) (show inL 137 by decide) hR) (fun a10 z8 h => ?_)
      obtain ⟨rfl, r9⟩ := h
      exact fk_Y_nodeOf_68 hy rfl rv1 rfl rv2 rfl rv3 rfl r9 hR
noncomputable def NL_Y_nodeOf_40 (v1 : Int) (v2 : Int) (v3 : Int) (m : YS) : Option ((Int) ⊕ (Unit)) :=
  it (fun s : Int => nb_Y_nodeOf_40 v1 v2 s m) (v3)
theorem fL_Y_nodeOf_40 {w y : Prop} {g : g_S} {n : NS} {m : YS} (hy : y) {xv1 : Int32} {v1 : Int} (ev1 : xv1 = Int32.ofInt v1) (rv1 : inR v1) {xv2 : Int32} {v2 : Int} (ev2 : xv2 = Int32.ofInt v2) (rv2 : inR v2) {xv3 : Int32} {v3 : Int} (ev3 : xv3 = Int32.ofInt v3) (rv3 : inR v3) (hR : RC w y g n m) : Rf (RS (fun a b => RI a b) (fun _ _ => True)) (L_Y_nodeOf_40 1838 xv1 xv2 xv3 g) (NL_Y_nodeOf_40 v1 v2 v3 m) := by
  subst ev1
  subst ev2
  subst ev3
  unfold L_Y_nodeOf_40 NL_Y_nodeOf_40
  refine rf_it (I := (fun a b => RI a b)) (fun s t h => ?_) ⟨rfl, rv3⟩
  exact fb_Y_nodeOf_40 hy rfl rv1 rfl rv2 h.1 h.2 hR
theorem NL_Y_nodeOf_40_eq (v1 : Int) (v2 : Int) (v3 : Int) (m : YS) : NL_Y_nodeOf_40 v1 v2 v3 m = itc (nb_Y_nodeOf_40 v1 v2 v3 m) (fun s => NL_Y_nodeOf_40 v1 v2 s m) := it_eq2 (fun s : Int => nb_Y_nodeOf_40 v1 v2 s m) (v3)
noncomputable def nk_Y_nodeOf_38 (v1 : Int) (v2 : Int) (m : YS) : Option (Int) :=
  (NL_Y_nodeOf_40 v1 v2 0 m).bind <|
    us (fun z1 =>
    some z1)
    (fun _ =>
    some (-1))
theorem fk_Y_nodeOf_38 {w y : Prop} {g : g_S} {n : NS} {m : YS} (hy : y) {xv1 : Int32} {v1 : Int} (ev1 : xv1 = Int32.ofInt v1) (rv1 : inR v1) {xv2 : Int32} {v2 : Int} (ev2 : xv2 = Int32.ofInt v2) (rv2 : inR v2) (hR : RC w y g n m) : Rf (fun a b => RI a b) (k_Y_nodeOf_38 1838 xv1 xv2 g) (nk_Y_nodeOf_38 v1 v2 m) := by
  subst ev1
  subst ev2
  unfold k_Y_nodeOf_38 nk_Y_nodeOf_38
  refine rf_bind (fL_Y_nodeOf_40 hy rfl rv1 rfl rv2 (e_n 0) (show inR 0 by decide) hR) (fun a b h => rf_us h (fun a2 z1 h => ?_) (fun a b h => ?_))
  · obtain ⟨rfl, r3⟩ := (show RI a2 z1 from h)
    exact rf_ok (by exact ⟨rfl, r3⟩)
  · exact rf_ok (by exact ⟨(e_m 1), (show inR (-1) by decide)⟩)
noncomputable def N_Y_nodeOf (v1 : Int) (v2 : Int) (m : YS) : Option (Int) :=
  ck (v2 - v1) <|
  if (v2 - v1) = 4 then
    (N_Y_isWord 159 v1 v2 209075 m).bind fun z6 =>
    if z6 = 0 then
      nk_Y_nodeOf_38 v1 v2 m
    else
      (N_Y_selfIsThere m).bind fun z11 =>
      if z11 = 0 then
        some (-1)
      else
        some (m 161 0)
  else
    nk_Y_nodeOf_38 v1 v2 m
theorem f_Y_nodeOf {w y : Prop} {g : g_S} {n : NS} {m : YS} (hy : y) {xv1 : Int32} {v1 : Int} (ev1 : xv1 = Int32.ofInt v1) (rv1 : inR v1) {xv2 : Int32} {v2 : Int} (ev2 : xv2 = Int32.ofInt v2) (rv2 : inR v2) (hR : RC w y g n m) : Rf (fun a b => RI a b) (M_Y_nodeOf 1838 xv1 xv2 g) (N_Y_nodeOf v1 v2 m) := by
  subst ev1
  subst ev2
  unfold M_Y_nodeOf N_Y_nodeOf
  refine rf_ck (fun h1 => ?_)
  refine rf_eq (e_sub rfl rfl) (e_n 4) h1 (show inR 4 by decide) ?_ ?_
  · refine y_Q hR hy ya159.1 (by decide) ?_
    refine rf_bind (f_Y_isWord hy rfl ya159 rfl rv1 rfl rv2 (f_n 209075) (show inL 209075 by decide) hR) (fun a8 z6 h => ?_)
    obtain ⟨rfl, r7⟩ := h
    refine rf_eq rfl (e_n 0) (inZ.r r7) (show inR 0 by decide) ?_ ?_
    · exact fk_Y_nodeOf_38 hy rfl rv1 rfl rv2 hR
    · refine v_c (y_gt hR hy) ?_
      refine rf_bind (f_Y_selfIsThere hy hR) (fun a13 z11 h => ?_)
      obtain ⟨rfl, r12⟩ := h
      refine rf_eq rfl (e_n 0) (inZ.r r12) (show inR 0 by decide) ?_ ?_
      · exact rf_ok (by exact ⟨(e_m 1), (show inR (-1) by decide)⟩)
      · refine y_I hR hy yk161 yt161 (fun h16 => ?_)
        exact rf_ok (by exact ⟨rfl, h16⟩)
  · exact fk_Y_nodeOf_38 hy rfl rv1 rfl rv2 hR
noncomputable def nb_Y_remove_96 (v1 : Int) (v2 : Int) (m : YS) : Option ((Int × YS) ⊕ (YS)) :=
  if v2 = (-1) then
    some (.inr m)
  else
    (N_Y_after v2 v1 m).bind fun z3 =>
    ix v2 120 <|
    st (yw m 45 v2 0) fun m8 =>
    ck ((m8 68 0) - 1) <|
    st (yw m8 68 0 ((m8 68 0) - 1)) fun m14 =>
    some (.inl (z3, m14))
theorem fb_Y_remove_96 {w y : Prop} {g : g_S} {n : NS} {m : YS} (hy : y) {xv1 : Int32} {v1 : Int} (ev1 : xv1 = Int32.ofInt v1) (rv1 : inR v1) {xv2 : Int32} {v2 : Int} (ev2 : xv2 = Int32.ofInt v2) (rv2 : inR v2) (hR : RC w y g n m) : Rf (RS (fun a b => RI a.1 b.1 ∧ RC w y a.2 n b.2) (fun a b => RC w y a n b)) (b_Y_remove_96 1838 xv1 xv2 g) (nb_Y_remove_96 v1 v2 m) := by
  subst ev1
  subst ev2
  unfold b_Y_remove_96 nb_Y_remove_96
  refine rf_eq rfl (e_m 1) rv2 (show inR (-1) by decide) ?_ ?_
  · exact rf_ok (by exact hR)
  · refine v_c (y_gt hR hy) ?_
    refine rf_bind (f_Y_after hy rfl rv2 rfl rv1 hR) (fun a5 z3 h => ?_)
    obtain ⟨rfl, r4⟩ := h
    refine y_Q hR hy ya45.1 (by decide) ?_
    refine y_sZ hR hy ya45 yl45 rfl rv2 (e_n 0) (.inl rfl) (fun g10 m8 hR9 => ?_)
    refine y_I hR9 hy yk68 yt68 (fun h11 => ?_)
    refine rf_ck (fun h12 => ?_)
    refine y_pI hR9 hy yk68 ⟨yt68, yz68⟩ (e_sub rfl (e_n 1)) h12 (fun g16 m14 hR15 => ?_)
    exact rf_ok (by exact ⟨⟨rfl, r4⟩, hR15⟩)
noncomputable def NL_Y_remove_96 (v1 : Int) (v2 : Int) (m : YS) : Option (YS) :=
  it (fun s : Int × YS => nb_Y_remove_96 v1 s.1 s.2) (v2, m)
theorem fL_Y_remove_96 {w y : Prop} {g : g_S} {n : NS} {m : YS} (hy : y) {xv1 : Int32} {v1 : Int} (ev1 : xv1 = Int32.ofInt v1) (rv1 : inR v1) {xv2 : Int32} {v2 : Int} (ev2 : xv2 = Int32.ofInt v2) (rv2 : inR v2) (hR : RC w y g n m) : Rf (fun a b => RC w y a n b) (L_Y_remove_96 1838 xv1 xv2 g) (NL_Y_remove_96 v1 v2 m) := by
  subst ev1
  subst ev2
  unfold L_Y_remove_96 NL_Y_remove_96
  refine rf_it (I := (fun a b => RI a.1 b.1 ∧ RC w y a.2 n b.2)) (fun s t h => ?_) ⟨⟨rfl, rv2⟩, hR⟩
  exact fb_Y_remove_96 hy rfl rv1 h.1.1 h.1.2 h.2
theorem NL_Y_remove_96_eq (v1 : Int) (v2 : Int) (m : YS) : NL_Y_remove_96 v1 v2 m = itc (nb_Y_remove_96 v1 v2 m) (fun s => NL_Y_remove_96 v1 s.1 s.2) := it_eq2 (fun s : Int × YS => nb_Y_remove_96 v1 s.1 s.2) (v2, m)
noncomputable def nk_Y_remove_94 (v1 : Int) (m : YS) : Option (YS) :=
  (NL_Y_remove_96 v1 v1 m).bind <| fun m1 =>
  some m1
theorem fk_Y_remove_94 {w y : Prop} {g : g_S} {n : NS} {m : YS} (hy : y) {xv1 : Int32} {v1 : Int} (ev1 : xv1 = Int32.ofInt v1) (rv1 : inR v1) (hR : RC w y g n m) : Rf (fun a b => RC w y a n b) (k_Y_remove_94 1838 xv1 g) (nk_Y_remove_94 v1 m) := by
  subst ev1
  unfold k_Y_remove_94 nk_Y_remove_94
  refine rf_bind (fL_Y_remove_96 hy rfl rv1 rfl rv1 hR) (fun a2 m1 h => ?_)
  have hR3 : RC w y a2 n m1 := h
  exact rf_ok (by exact hR3)
noncomputable def nk_Y_remove_47 (v1 : Int) (m : YS) : Option (YS) :=
  ix v1 120 <|
  if (m 52 v1) = (-1) then
    ix v1 120 <|
    ix v1 120 <|
    ix (m 49 v1) 120 <|
    st (yw m 51 (m 49 v1) (m 53 v1)) fun m13 =>
    nk_Y_remove_94 v1 m13
  else
    ix v1 120 <|
    ix v1 120 <|
    ix (m 52 v1) 120 <|
    st (yw m 53 (m 52 v1) (m 53 v1)) fun m24 =>
    nk_Y_remove_94 v1 m24
theorem fk_Y_remove_47 {w y : Prop} {g : g_S} {n : NS} {m : YS} (hy : y) {xv1 : Int32} {v1 : Int} (ev1 : xv1 = Int32.ofInt v1) (rv1 : inR v1) (hR : RC w y g n m) : Rf (fun a b => RC w y a n b) (k_Y_remove_47 1838 xv1 g) (nk_Y_remove_47 v1 m) := by
  subst ev1
  unfold k_Y_remove_47 nk_Y_remove_47
  refine y_Q hR hy ya52.1 (by decide) ?_
  refine y_aI hR hy ya52 yl52 rfl rv1 (fun h2 h3 => ?_)
  refine rf_eq rfl (e_m 1) h3 (show inR (-1) by decide) ?_ ?_
  · refine y_Q hR hy ya51.1 (by decide) ?_
    refine y_Q hR hy ya49.1 (by decide) ?_
    refine y_aI hR hy ya49 yl49 rfl rv1 (fun h7 h8 => ?_)
    refine y_Q hR hy ya53.1 (by decide) ?_
    refine y_aI hR hy ya53 yl53 rfl rv1 (fun h10 h11 => ?_)
    refine y_sI hR hy ya51 yl51 rfl h8 rfl h11 (fun g15 m13 hR14 => ?_)
    exact fk_Y_remove_94 hy rfl rv1 hR14
  · refine y_Q hR hy ya53.1 (by decide) ?_
    refine y_Q hR hy ya52.1 (by decide) ?_
    refine y_aI hR hy ya52 yl52 rfl rv1 (fun h18 h19 => ?_)
    refine y_Q hR hy ya53.1 (by decide) ?_
    refine y_aI hR hy ya53 yl53 rfl rv1 (fun h21 h22 => ?_)
    refine y_sI hR hy ya53 yl53 rfl h19 rfl h22 (fun g26 m24 hR25 => ?_)
    exact fk_Y_remove_94 hy rfl rv1 hR25
noncomputable def N_Y_remove (v1 : Int) (m : YS) : Option (YS) :=
  ix v1 120 <|
  if (m 53 v1) = (-1) then
    ix v1 120 <|
    ix v1 120 <|
    ix (m 49 v1) 120 <|
    st (yw m 50 (m 49 v1) (m 52 v1)) fun m13 =>
    nk_Y_remove_47 v1 m13
  else
    ix v1 120 <|
    ix v1 120 <|
    ix (m 53 v1) 120 <|
    st (yw m 52 (m 53 v1) (m 52 v1)) fun m24 =>
    nk_Y_remove_47 v1 m24
theorem f_Y_remove {w y : Prop} {g : g_S} {n : NS} {m : YS} (hy : y) {xv1 : Int32} {v1 : Int} (ev1 : xv1 = Int32.ofInt v1) (rv1 : inR v1) (hR : RC w y g n m) : Rf (fun a b => RC w y a n b) (M_Y_remove 1838 xv1 g) (N_Y_remove v1 m) := by
  subst ev1
  unfold M_Y_remove N_Y_remove
  refine y_Q hR hy ya53.1 (by decide) ?_
  refine y_aI hR hy ya53 yl53 rfl rv1 (fun h2 h3 => ?_)
  refine rf_eq rfl (e_m 1) h3 (show inR (-1) by decide) ?_ ?_
  · refine y_Q hR hy ya50.1 (by decide) ?_
    refine y_Q hR hy ya49.1 (by decide) ?_
    refine y_aI hR hy ya49 yl49 rfl rv1 (fun h7 h8 => ?_)
    refine y_Q hR hy ya52.1 (by decide) ?_
    refine y_aI hR hy ya52 yl52 rfl rv1 (fun h10 h11 => ?_)
    refine y_sI hR hy ya50 yl50 rfl h8 rfl h11 (fun g15 m13 hR14 => ?_)
    exact fk_Y_remove_47 hy rfl rv1 hR14
  · refine y_Q hR hy ya52.1 (by decide) ?_
    refine y_Q hR hy ya53.1 (by decide) ?_
    refine y_aI hR hy ya53 yl53 rfl rv1 (fun h18 h19 => ?_)
    refine y_Q hR hy ya52.1 (by decide) ?_
    refine y_aI hR hy ya52 yl52 rfl rv1 (fun h21 h22 => ?_)
    refine y_sI hR hy ya52 yl52 rfl h19 rfl h22 (fun g26 m24 hR25 => ?_)
    exact fk_Y_remove_47 hy rfl rv1 hR25
noncomputable def nb_Y_setText_57 (v1 : Nat) (v2 : Int) (v3 : Int) (v4 : Int) (m : YS) : Option ((YS) ⊕ (YS)) :=
  ix v4 120 <|
  if (m 50 v4) = (-1) then
    some (.inr m)
  else
    ix v4 120 <|
    (N_Y_remove (m 50 v4) m).bind fun m9 =>
    some (.inl m9)
theorem fb_Y_setText_57 {w y : Prop} {g : g_S} {n : NS} {m : YS} (hy : y) {xv1 : Nat} {v1 : Nat} (ev1 : xv1 = yAd v1) (rv1 : v1 < 186 ∧ yT v1 = 1) {xv2 : Int32} {v2 : Int} (ev2 : xv2 = Int32.ofInt v2) (rv2 : inR v2) {xv3 : Int32} {v3 : Int} (ev3 : xv3 = Int32.ofInt v3) (rv3 : inR v3) {xv4 : Int32} {v4 : Int} (ev4 : xv4 = Int32.ofInt v4) (rv4 : inR v4) (hR : RC w y g n m) : Rf (RS (fun a b => RC w y a n b) (fun a b => RC w y a n b)) (b_Y_setText_57 1838 xv1 xv2 xv3 xv4 g) (nb_Y_setText_57 v1 v2 v3 v4 m) := by
  subst ev1
  subst ev2
  subst ev3
  subst ev4
  unfold b_Y_setText_57 nb_Y_setText_57
  refine y_Q hR hy ya50.1 (by decide) ?_
  refine y_aI hR hy ya50 yl50 rfl rv4 (fun h2 h3 => ?_)
  refine rf_eq rfl (e_m 1) h3 (show inR (-1) by decide) ?_ ?_
  · exact rf_ok (by exact hR)
  · refine y_Q hR hy ya50.1 (by decide) ?_
    refine y_aI hR hy ya50 yl50 rfl rv4 (fun h6 h7 => ?_)
    refine v_c (y_gt hR hy) ?_
    refine rf_bind (f_Y_remove hy rfl h7 hR) (fun g11 m9 hR10 => ?_)
    exact rf_ok (by exact hR10)
noncomputable def NL_Y_setText_57 (v1 : Nat) (v2 : Int) (v3 : Int) (v4 : Int) (m : YS) : Option (YS) :=
  it (fun s : YS => nb_Y_setText_57 v1 v2 v3 v4 s) (m)
theorem fL_Y_setText_57 {w y : Prop} {g : g_S} {n : NS} {m : YS} (hy : y) {xv1 : Nat} {v1 : Nat} (ev1 : xv1 = yAd v1) (rv1 : v1 < 186 ∧ yT v1 = 1) {xv2 : Int32} {v2 : Int} (ev2 : xv2 = Int32.ofInt v2) (rv2 : inR v2) {xv3 : Int32} {v3 : Int} (ev3 : xv3 = Int32.ofInt v3) (rv3 : inR v3) {xv4 : Int32} {v4 : Int} (ev4 : xv4 = Int32.ofInt v4) (rv4 : inR v4) (hR : RC w y g n m) : Rf (fun a b => RC w y a n b) (L_Y_setText_57 1838 xv1 xv2 xv3 xv4 g) (NL_Y_setText_57 v1 v2 v3 v4 m) := by
  subst ev1
  subst ev2
  subst ev3
  subst ev4
  unfold L_Y_setText_57 NL_Y_setText_57
  refine rf_it (I := (fun a b => RC w y a n b)) (fun s t h => ?_) hR
  exact fb_Y_setText_57 hy rfl rv1 rfl rv2 rfl rv3 rfl rv4 h
theorem NL_Y_setText_57_eq (v1 : Nat) (v2 : Int) (v3 : Int) (v4 : Int) (m : YS) : NL_Y_setText_57 v1 v2 v3 v4 m = itc (nb_Y_setText_57 v1 v2 v3 v4 m) (fun s => NL_Y_setText_57 v1 v2 v3 v4 s) := it_eq2 (fun s : YS => nb_Y_setText_57 v1 v2 v3 v4 s) (m)
noncomputable def nb_Y_setText_121 (v1 : Nat) (v2 : Int) (v5 : Int) (v6 : Int) (m : YS) : Option ((Int × YS) ⊕ (YS)) :=
  ix v5 120 <|
  if v6 < (m 62 v5) then
    ck (400 * v5) <|
    ck ((400 * v5) + v6) <|
    ck (v2 + v6) <|
    ix (v2 + v6) (yLn v1 : Int) <|
    ix ((400 * v5) + v6) 48000 <|
    st (yw m 61 ((400 * v5) + v6) (m v1 (v2 + v6))) fun m12 =>
    ck (v6 + 1) <|
    some (.inl (v6 + 1, m12))
  else
    some (.inr m)
theorem fb_Y_setText_121 {w y : Prop} {g : g_S} {n : NS} {m : YS} (hy : y) {xv1 : Nat} {v1 : Nat} (ev1 : xv1 = yAd v1) (rv1 : v1 < 186 ∧ yT v1 = 1) {xv2 : Int32} {v2 : Int} (ev2 : xv2 = Int32.ofInt v2) (rv2 : inR v2) {xv5 : Int32} {v5 : Int} (ev5 : xv5 = Int32.ofInt v5) (rv5 : inR v5) {xv6 : Int32} {v6 : Int} (ev6 : xv6 = Int32.ofInt v6) (rv6 : inR v6) (hR : RC w y g n m) : Rf (RS (fun a b => RI a.1 b.1 ∧ RC w y a.2 n b.2) (fun a b => RC w y a n b)) (b_Y_setText_121 1838 xv1 xv2 xv5 xv6 g) (nb_Y_setText_121 v1 v2 v5 v6 m) := by
  subst ev1
  subst ev2
  subst ev5
  subst ev6
  unfold b_Y_setText_121 nb_Y_setText_121
  refine y_Q hR hy ya62.1 (by decide) ?_
  refine y_aI hR hy ya62 yl62 rfl rv5 (fun h2 h3 => ?_)
  refine rf_lt rfl rfl rv6 h3 ?_ ?_
  · refine y_Q hR hy ya61.1 (by decide) ?_
    refine rf_ck (fun h6 => ?_)
    refine rf_ck (fun h7 => ?_)
    refine rf_ck (fun h8 => ?_)
    refine y_aB hR hy rv1 rfl (e_add rfl rfl) h8 (fun h9 h10 => ?_)
    refine y_sB hR hy ya61 yl61 (e_add (e_mul (e_n 400) rfl) rfl) h7 rfl h10 (fun g14 m12 hR13 => ?_)
    refine rf_ck (fun h15 => ?_)
    exact rf_ok (by exact ⟨⟨(e_add rfl (e_n 1)), h15⟩, hR13⟩)
  · exact rf_ok (by exact hR)
noncomputable def NL_Y_setText_121 (v1 : Nat) (v2 : Int) (v5 : Int) (v6 : Int) (m : YS) : Option (YS) :=
  it (fun s : Int × YS => nb_Y_setText_121 v1 v2 v5 s.1 s.2) (v6, m)
theorem fL_Y_setText_121 {w y : Prop} {g : g_S} {n : NS} {m : YS} (hy : y) {xv1 : Nat} {v1 : Nat} (ev1 : xv1 = yAd v1) (rv1 : v1 < 186 ∧ yT v1 = 1) {xv2 : Int32} {v2 : Int} (ev2 : xv2 = Int32.ofInt v2) (rv2 : inR v2) {xv5 : Int32} {v5 : Int} (ev5 : xv5 = Int32.ofInt v5) (rv5 : inR v5) {xv6 : Int32} {v6 : Int} (ev6 : xv6 = Int32.ofInt v6) (rv6 : inR v6) (hR : RC w y g n m) : Rf (fun a b => RC w y a n b) (L_Y_setText_121 1838 xv1 xv2 xv5 xv6 g) (NL_Y_setText_121 v1 v2 v5 v6 m) := by
  subst ev1
  subst ev2
  subst ev5
  subst ev6
  unfold L_Y_setText_121 NL_Y_setText_121
  refine rf_it (I := (fun a b => RI a.1 b.1 ∧ RC w y a.2 n b.2)) (fun s t h => ?_) ⟨⟨rfl, rv6⟩, hR⟩
  exact fb_Y_setText_121 hy rfl rv1 rfl rv2 rfl rv5 h.1.1 h.1.2 h.2
theorem NL_Y_setText_121_eq (v1 : Nat) (v2 : Int) (v5 : Int) (v6 : Int) (m : YS) : NL_Y_setText_121 v1 v2 v5 v6 m = itc (nb_Y_setText_121 v1 v2 v5 v6 m) (fun s => NL_Y_setText_121 v1 v2 v5 s.1 s.2) := it_eq2 (fun s : Int × YS => nb_Y_setText_121 v1 v2 v5 s.1 s.2) (v6, m)
noncomputable def N_Y_setText (v1 : Nat) (v2 : Int) (v3 : Int) (m : YS) : Option (YS) :=
  ix (m 164 0) 120 <|
  (N_Y_isEmptyTag (m 46 (m 164 0)) m).bind fun z6 =>
  if z6 = 0 then
    ix (m 164 0) 120 <|
    if (m 54 (m 164 0)) = 20 then
      some m
    else
      if 0 < v3 then
        if (m 68 0) = 120 then
          ix (m 164 0) 120 <|
          if (m 50 (m 164 0)) = (-1) then
            some m
          else
            (NL_Y_setText_57 v1 v2 v3 (m 164 0) m).bind <| fun m23 =>
            if v3 = 0 then
              some m23
            else
              (N_Y_fresh (m 164 0) m23).bind <| u2 fun z29 m32 =>
              ix z29 120 <|
              st (yw m32 46 z29 17) fun m37 =>
              ix z29 120 <|
              st (yw m37 62 z29 (min 400 v3)) fun m43 =>
              (NL_Y_setText_121 v1 v2 z29 0 m43).bind <| fun m46 =>
              some m46
        else
          (NL_Y_setText_57 v1 v2 v3 (m 164 0) m).bind <| fun m50 =>
          if v3 = 0 then
            some m50
          else
            (N_Y_fresh (m 164 0) m50).bind <| u2 fun z56 m59 =>
            ix z56 120 <|
            st (yw m59 46 z56 17) fun m64 =>
            ix z56 120 <|
            st (yw m64 62 z56 (min 400 v3)) fun m70 =>
            (NL_Y_setText_121 v1 v2 z56 0 m70).bind <| fun m73 =>
            some m73
      else
        (NL_Y_setText_57 v1 v2 v3 (m 164 0) m).bind <| fun m77 =>
        if v3 = 0 then
          some m77
        else
          (N_Y_fresh (m 164 0) m77).bind <| u2 fun z83 m86 =>
          ix z83 120 <|
          st (yw m86 46 z83 17) fun m91 =>
          ix z83 120 <|
          st (yw m91 62 z83 (min 400 v3)) fun m97 =>
          (NL_Y_setText_121 v1 v2 z83 0 m97).bind <| fun m100 =>
          some m100
  else
    some m
theorem f_Y_setText {w y : Prop} {g : g_S} {n : NS} {m : YS} (hy : y) {xv1 : Nat} {v1 : Nat} (ev1 : xv1 = yAd v1) (rv1 : v1 < 186 ∧ yT v1 = 1) {xv2 : Int32} {v2 : Int} (ev2 : xv2 = Int32.ofInt v2) (rv2 : inR v2) {xv3 : Int32} {v3 : Int} (ev3 : xv3 = Int32.ofInt v3) (rv3 : inR v3) (hR : RC w y g n m) : Rf (fun a b => RC w y a n b) (M_Y_setText 1838 xv1 xv2 xv3 g) (N_Y_setText v1 v2 v3 m) := by
  subst ev1
  subst ev2
  subst ev3
  unfold M_Y_setText N_Y_setText
  refine y_I hR hy yk164 yt164 (fun h1 => ?_)
  refine y_Q hR hy ya46.1 (by decide) ?_
  refine y_aI hR hy ya46 yl46 rfl h1 (fun h3 h4 => ?_)
  refine rf_bind (f_Y_isEmptyTag hy rfl h4 hR) (fun a8 z6 h => ?_)
  obtain ⟨rfl, r7⟩ := h
  refine rf_eq rfl (e_n 0) (inZ.r r7) (show inR 0 by decide) ?_ ?_
  · refine y_Q hR hy ya54.1 (by decide) ?_
    refine y_aI hR hy ya54 yl54 rfl h1 (fun h11 h12 => ?_)
    refine rf_eq rfl (e_n 20) h12 (show inR 20 by decide) ?_ ?_
    · exact rf_ok (by exact hR)
    · refine rf_lt (e_n 0) rfl (show inR 0 by decide) rv3 ?_ ?_
      · refine y_I hR hy yk68 yt68 (fun h16 => ?_)
        refine rf_eq rfl (e_n 120) h16 (show inR 120 by decide) ?_ ?_
        · refine y_Q hR hy ya50.1 (by decide) ?_
          refine y_aI hR hy ya50 yl50 rfl h1 (fun h19 h20 => ?_)
          refine rf_eq rfl (e_m 1) h20 (show inR (-1) by decide) ?_ ?_
          · exact rf_ok (by exact hR)
          · refine rf_bind (fL_Y_setText_57 hy rfl rv1 rfl rv2 rfl rv3 rfl h1 hR) (fun a24 m23 h => ?_)
            have hR25 : RC w y a24 n m23 := h
            refine rf_eq rfl (e_n 0) rv3 (show inR 0 by decide) ?_ ?_
            · exact rf_ok (by exact hR25)
            · refine v_c2 (y_gt hR25 hy) ?_
              refine rf_c2 (f_Y_fresh hy rfl h1 hR25) (fun a31 g34 b h => ?_)
              obtain ⟨z29, m32⟩ := b
              refine rf_v2 ?_
              obtain ⟨rfl, r30⟩ := (show RI a31 z29 from h.1)
              have hR33 : RC w y g34 n m32 := h.2
              refine y_Q hR33 hy ya46.1 (by decide) ?_
              refine y_sI hR33 hy ya46 yl46 rfl r30 (e_n 17) (show inR 17 by decide) (fun g39 m37 hR38 => ?_)
              refine y_Q hR38 hy ya62.1 (by decide) ?_
              refine y_sI hR38 hy ya62 yl62 rfl r30 (e_mn (e_n 400) rfl (show inR 400 by decide) rv3) (min_r (show inR 400 by decide) rv3) (fun g45 m43 hR44 => ?_)
              refine rf_bind (fL_Y_setText_121 hy rfl rv1 rfl rv2 rfl r30 (e_n 0) (show inR 0 by decide) hR44) (fun a47 m46 h => ?_)
              have hR48 : RC w y a47 n m46 := h
              exact rf_ok (by exact hR48)
        · refine rf_bind (fL_Y_setText_57 hy rfl rv1 rfl rv2 rfl rv3 rfl h1 hR) (fun a51 m50 h => ?_)
          have hR52 : RC w y a51 n m50 := h
          refine rf_eq rfl (e_n 0) rv3 (show inR 0 by decide) ?_ ?_
          · exact rf_ok (by exact hR52)
          · refine v_c2 (y_gt hR52 hy) ?_
            refine rf_c2 (f_Y_fresh hy rfl h1 hR52) (fun a58 g61 b h => ?_)
            obtain ⟨z56, m59⟩ := b
            refine rf_v2 ?_
            obtain ⟨rfl, r57⟩ := (show RI a58 z56 from h.1)
            have hR60 : RC w y g61 n m59 := h.2
            refine y_Q hR60 hy ya46.1 (by decide) ?_
            refine y_sI hR60 hy ya46 yl46 rfl r57 (e_n 17) (show inR 17 by decide) (fun g66 m64 hR65 => ?_)
            refine y_Q hR65 hy ya62.1 (by decide) ?_
            refine y_sI hR65 hy ya62 yl62 rfl r57 (e_mn (e_n 400) rfl (show inR 400 by decide) rv3) (min_r (show inR 400 by decide) rv3) (fun g72 m70 hR71 => ?_)
            refine rf_bind (fL_Y_setText_121 hy rfl rv1 rfl rv2 rfl r57 (e_n 0) (show inR 0 by decide) hR71) (fun a74 m73 h => ?_)
            have hR75 : RC w y a74 n m73 := h
            exact rf_ok (by exact hR75)
      · refine rf_bind (fL_Y_setText_57 hy rfl rv1 rfl rv2 rfl rv3 rfl h1 hR) (fun a78 m77 h => ?_)
        have hR79 : RC w y a78 n m77 := h
        refine rf_eq rfl (e_n 0) rv3 (show inR 0 by decide) ?_ ?_
        · exact rf_ok (by exact hR79)
        · refine v_c2 (y_gt hR79 hy) ?_
          refine rf_c2 (f_Y_fresh hy rfl h1 hR79) (fun a85 g88 b h => ?_)
          obtain ⟨z83, m86⟩ := b
          refine rf_v2 ?_
          obtain ⟨rfl, r84⟩ := (show RI a85 z83 from h.1)
          have hR87 : RC w y g88 n m86 := h.2
          refine y_Q hR87 hy ya46.1 (by decide) ?_
          refine y_sI hR87 hy ya46 yl46 rfl r84 (e_n 17) (show inR 17 by decide) (fun g93 m91 hR92 => ?_)
          refine y_Q hR92 hy ya62.1 (by decide) ?_
          refine y_sI hR92 hy ya62 yl62 rfl r84 (e_mn (e_n 400) rfl (show inR 400 by decide) rv3) (min_r (show inR 400 by decide) rv3) (fun g99 m97 hR98 => ?_)
          refine rf_bind (fL_Y_setText_121 hy rfl rv1 rfl rv2 rfl r84 (e_n 0) (show inR 0 by decide) hR98) (fun a101 m100 h => ?_)
          have hR102 : RC w y a101 n m100 := h
          exact rf_ok (by exact hR102)
  · exact rf_ok (by exact hR)
noncomputable def nb_Y_setClass_133 (v1 : Int) (v3 : Int) (v4 : Int) (m : YS) : Option ((Int × YS) ⊕ (YS)) :=
  ix v3 480 <|
  if v4 < (m 60 v3) then
    ck (60 * v3) <|
    ck ((60 * v3) + v4) <|
    ck (v1 + v4) <|
    ix (v1 + v4) 2000 <|
    ix ((60 * v3) + v4) 28800 <|
    st (yw m 59 ((60 * v3) + v4) (m 159 (v1 + v4))) fun m13 =>
    ck (v4 + 1) <|
    some (.inl (v4 + 1, m13))
  else
    some (.inr m)
theorem fb_Y_setClass_133 {w y : Prop} {g : g_S} {n : NS} {m : YS} (hy : y) {xv1 : Int32} {v1 : Int} (ev1 : xv1 = Int32.ofInt v1) (rv1 : inR v1) {xv3 : Int32} {v3 : Int} (ev3 : xv3 = Int32.ofInt v3) (rv3 : inR v3) {xv4 : Int32} {v4 : Int} (ev4 : xv4 = Int32.ofInt v4) (rv4 : inR v4) (hR : RC w y g n m) : Rf (RS (fun a b => RI a.1 b.1 ∧ RC w y a.2 n b.2) (fun a b => RC w y a n b)) (b_Y_setClass_133 1838 xv1 xv3 xv4 g) (nb_Y_setClass_133 v1 v3 v4 m) := by
  subst ev1
  subst ev3
  subst ev4
  unfold b_Y_setClass_133 nb_Y_setClass_133
  refine y_Q hR hy ya60.1 (by decide) ?_
  refine y_aI hR hy ya60 yl60 rfl rv3 (fun h2 h3 => ?_)
  refine rf_lt rfl rfl rv4 h3 ?_ ?_
  · refine y_Q hR hy ya59.1 (by decide) ?_
    refine rf_ck (fun h6 => ?_)
    refine rf_ck (fun h7 => ?_)
    refine y_Q hR hy ya159.1 (by decide) ?_
    refine rf_ck (fun h9 => ?_)
    refine y_aB hR hy ya159 yl159 (e_add rfl rfl) h9 (fun h10 h11 => ?_)
    refine y_sB hR hy ya59 yl59 (e_add (e_mul (e_n 60) rfl) rfl) h7 rfl h11 (fun g15 m13 hR14 => ?_)
    refine rf_ck (fun h16 => ?_)
    exact rf_ok (by exact ⟨⟨(e_add rfl (e_n 1)), h16⟩, hR14⟩)
  · exact rf_ok (by exact hR)
noncomputable def NL_Y_setClass_133 (v1 : Int) (v3 : Int) (v4 : Int) (m : YS) : Option (YS) :=
  it (fun s : Int × YS => nb_Y_setClass_133 v1 v3 s.1 s.2) (v4, m)
theorem fL_Y_setClass_133 {w y : Prop} {g : g_S} {n : NS} {m : YS} (hy : y) {xv1 : Int32} {v1 : Int} (ev1 : xv1 = Int32.ofInt v1) (rv1 : inR v1) {xv3 : Int32} {v3 : Int} (ev3 : xv3 = Int32.ofInt v3) (rv3 : inR v3) {xv4 : Int32} {v4 : Int} (ev4 : xv4 = Int32.ofInt v4) (rv4 : inR v4) (hR : RC w y g n m) : Rf (fun a b => RC w y a n b) (L_Y_setClass_133 1838 xv1 xv3 xv4 g) (NL_Y_setClass_133 v1 v3 v4 m) := by
  subst ev1
  subst ev3
  subst ev4
  unfold L_Y_setClass_133 NL_Y_setClass_133
  refine rf_it (I := (fun a b => RI a.1 b.1 ∧ RC w y a.2 n b.2)) (fun s t h => ?_) ⟨⟨rfl, rv4⟩, hR⟩
  exact fb_Y_setClass_133 hy rfl rv1 rfl rv3 h.1.1 h.1.2 h.2
theorem NL_Y_setClass_133_eq (v1 : Int) (v3 : Int) (v4 : Int) (m : YS) : NL_Y_setClass_133 v1 v3 v4 m = itc (nb_Y_setClass_133 v1 v3 v4 m) (fun s => NL_Y_setClass_133 v1 v3 s.1 s.2) := it_eq2 (fun s : Int × YS => nb_Y_setClass_133 v1 v3 s.1 s.2) (v4, m)
noncomputable def nb_Y_setClass_76 (v1 : Int) (v2 : Int) (v3 : Int) (v4 : Int) (v6 : Int) (m : YS) : Option ((Int × YS) ⊕ (YS)) :=
  if v6 < 5 then
    ck (8 * v3) <|
    ck ((8 * v3) + v6) <|
    ck (5 * v6) <|
    sh6 (5 * v6) <|
    ck ((v4 / 2 ^ Int.toNat (5 * v6)) % 32) <|
    ck (96 + ((v4 / 2 ^ Int.toNat (5 * v6)) % 32)) <|
    ix ((8 * v3) + v6) 3840 <|
    st (yw m 57 ((8 * v3) + v6) (Int.bmod (96 + ((v4 / 2 ^ Int.toNat (5 * v6)) % 32)) 256)) fun m11 =>
    ck (v6 + 1) <|
    some (.inl (v6 + 1, m11))
  else
    some (.inr m)
theorem fb_Y_setClass_76 {w y : Prop} {g : g_S} {n : NS} {m : YS} (hy : y) {xv1 : Int32} {v1 : Int} (ev1 : xv1 = Int32.ofInt v1) (rv1 : inR v1) {xv2 : Int32} {v2 : Int} (ev2 : xv2 = Int32.ofInt v2) (rv2 : inR v2) {xv3 : Int32} {v3 : Int} (ev3 : xv3 = Int32.ofInt v3) (rv3 : inR v3) {xv4 : Int64} {v4 : Int} (ev4 : xv4 = Int64.ofInt v4) (rv4 : inL v4) {xv6 : Int32} {v6 : Int} (ev6 : xv6 = Int32.ofInt v6) (rv6 : inR v6) (hR : RC w y g n m) : Rf (RS (fun a b => RI a.1 b.1 ∧ RC w y a.2 n b.2) (fun a b => RC w y a n b)) (b_Y_setClass_76 1838 xv1 xv2 xv3 xv4 xv6 g) (nb_Y_setClass_76 v1 v2 v3 v4 v6 m) := by
  subst ev1
  subst ev2
  subst ev3
  subst ev4
  subst ev6
  unfold b_Y_setClass_76 nb_Y_setClass_76
  refine rf_lt rfl (e_n 5) rv6 (show inR 5 by decide) ?_ ?_
  · refine y_Q hR hy ya57.1 (by decide) ?_
    refine rf_ck (fun h3 => ?_)
    refine rf_ck (fun h4 => ?_)
    refine rf_ck (fun h5 => ?_)
    refine rf_sh6 (fun h6 => ?_)
    refine rf_ck (fun h8 => ?_)
    refine rf_ck (fun h9 => ?_)
    refine y_sB hR hy ya57 yl57 (e_add (e_mul (e_n 8) rfl) rfl) h4 (e_b (e_add (e_n 96) (e_l2i (f_and31 (f_shr rfl rv4 (e_mul (e_n 5) rfl) h6))))) b_b (fun g13 m11 hR12 => ?_)
    refine rf_ck (fun h14 => ?_)
    exact rf_ok (by exact ⟨⟨(e_add rfl (e_n 1)), h14⟩, hR12⟩)
  · exact rf_ok (by exact hR)
noncomputable def NL_Y_setClass_76 (v1 : Int) (v2 : Int) (v3 : Int) (v4 : Int) (v6 : Int) (m : YS) : Option (YS) :=
  it (fun s : Int × YS => nb_Y_setClass_76 v1 v2 v3 v4 s.1 s.2) (v6, m)
theorem fL_Y_setClass_76 {w y : Prop} {g : g_S} {n : NS} {m : YS} (hy : y) {xv1 : Int32} {v1 : Int} (ev1 : xv1 = Int32.ofInt v1) (rv1 : inR v1) {xv2 : Int32} {v2 : Int} (ev2 : xv2 = Int32.ofInt v2) (rv2 : inR v2) {xv3 : Int32} {v3 : Int} (ev3 : xv3 = Int32.ofInt v3) (rv3 : inR v3) {xv4 : Int64} {v4 : Int} (ev4 : xv4 = Int64.ofInt v4) (rv4 : inL v4) {xv6 : Int32} {v6 : Int} (ev6 : xv6 = Int32.ofInt v6) (rv6 : inR v6) (hR : RC w y g n m) : Rf (fun a b => RC w y a n b) (L_Y_setClass_76 1838 xv1 xv2 xv3 xv4 xv6 g) (NL_Y_setClass_76 v1 v2 v3 v4 v6 m) := by
  subst ev1
  subst ev2
  subst ev3
  subst ev4
  subst ev6
  unfold L_Y_setClass_76 NL_Y_setClass_76
  refine rf_it (I := (fun a b => RI a.1 b.1 ∧ RC w y a.2 n b.2)) (fun s t h => ?_) ⟨⟨rfl, rv6⟩, hR⟩
  exact fb_Y_setClass_76 hy rfl rv1 rfl rv2 rfl rv3 rfl rv4 h.1.1 h.1.2 h.2
theorem NL_Y_setClass_76_eq (v1 : Int) (v2 : Int) (v3 : Int) (v4 : Int) (v6 : Int) (m : YS) : NL_Y_setClass_76 v1 v2 v3 v4 v6 m = itc (nb_Y_setClass_76 v1 v2 v3 v4 v6 m) (fun s => NL_Y_setClass_76 v1 v2 v3 v4 s.1 s.2) := it_eq2 (fun s : Int × YS => nb_Y_setClass_76 v1 v2 v3 v4 s.1 s.2) (v6, m)
noncomputable def nk_Y_setClass_116 (v1 : Int) (v2 : Int) (v3 : Int) (m : YS) : Option (YS) :=
  ck (v2 - v1) <|
  ix v3 480 <|
  st (yw m 60 v3 (min 60 (v2 - v1))) fun m5 =>
  (NL_Y_setClass_133 v1 v3 0 m5).bind <| fun m8 =>
  some m8
theorem fk_Y_setClass_116 {w y : Prop} {g : g_S} {n : NS} {m : YS} (hy : y) {xv1 : Int32} {v1 : Int} (ev1 : xv1 = Int32.ofInt v1) (rv1 : inR v1) {xv2 : Int32} {v2 : Int} (ev2 : xv2 = Int32.ofInt v2) (rv2 : inR v2) {xv3 : Int32} {v3 : Int} (ev3 : xv3 = Int32.ofInt v3) (rv3 : inR v3) (hR : RC w y g n m) : Rf (fun a b => RC w y a n b) (k_Y_setClass_116 1838 xv1 xv2 xv3 g) (nk_Y_setClass_116 v1 v2 v3 m) := by
  subst ev1
  subst ev2
  subst ev3
  unfold k_Y_setClass_116 nk_Y_setClass_116
  refine y_Q hR hy ya60.1 (by decide) ?_
  refine rf_ck (fun h2 => ?_)
  refine y_sI hR hy ya60 yl60 rfl rv3 (e_mn (e_n 60) (e_sub rfl rfl) (show inR 60 by decide) h2) (min_r (show inR 60 by decide) h2) (fun g7 m5 hR6 => ?_)
  refine rf_bind (fL_Y_setClass_133 hy rfl rv1 rfl rv3 (e_n 0) (show inR 0 by decide) hR6) (fun a9 m8 h => ?_)
  have hR10 : RC w y a9 n m8 := h
  exact rf_ok (by exact hR10)
noncomputable def N_Y_setClass (v1 : Int) (v2 : Int) (m : YS) : Option (YS) :=
  (N_Y_attributeOf (m 164 0) 20546947 m).bind fun z4 =>
  if z4 = (-1) then
    ix (m 164 0) 120 <|
    if (m 56 (m 164 0)) = 4 then
      some m
    else
      ck (4 * (m 164 0)) <|
      ix (m 164 0) 120 <|
      ck ((4 * (m 164 0)) + (m 56 (m 164 0))) <|
      ix (m 164 0) 120 <|
      ck ((m 56 (m 164 0)) + 1) <|
      ix (m 164 0) 120 <|
      st (yw m 56 (m 164 0) ((m 56 (m 164 0)) + 1)) fun m27 =>
      ix ((4 * (m 164 0)) + (m 56 (m 164 0))) 480 <|
      st (yw m27 58 ((4 * (m 164 0)) + (m 56 (m 164 0))) 5) fun m32 =>
      (NL_Y_setClass_76 v1 v2 ((4 * (m 164 0)) + (m 56 (m 164 0))) 20546947 0 m32).bind <| fun m36 =>
      nk_Y_setClass_116 v1 v2 ((4 * (m 164 0)) + (m 56 (m 164 0))) m36
  else
    nk_Y_setClass_116 v1 v2 z4 m
theorem f_Y_setClass {w y : Prop} {g : g_S} {n : NS} {m : YS} (hy : y) {xv1 : Int32} {v1 : Int} (ev1 : xv1 = Int32.ofInt v1) (rv1 : inR v1) {xv2 : Int32} {v2 : Int} (ev2 : xv2 = Int32.ofInt v2) (rv2 : inR v2) (hR : RC w y g n m) : Rf (fun a b => RC w y a n b) (M_Y_setClass 1838 xv1 xv2 g) (N_Y_setClass v1 v2 m) := by
  subst ev1
  subst ev2
  unfold M_Y_setClass N_Y_setClass
  refine y_I hR hy yk164 yt164 (fun h1 => ?_)
  refine v_c (y_gt hR hy) ?_
  refine rf_bind (f_Y_attributeOf hy rfl h1 (f_n 20546947) (show inL 20546947 by decide) hR) (fun a6 z4 h => ?_)
  obtain ⟨rfl, r5⟩ := h
  refine rf_eq rfl (e_m 1) r5 (show inR (-1) by decide) ?_ ?_
  · refine y_Q hR hy ya56.1 (by decide) ?_
    refine y_I hR hy yk164 yt164 (fun h9 => ?_)
    refine y_aI hR hy ya56 yl56 rfl h9 (fun h10 h11 => ?_)
    refine rf_eq rfl (e_n 4) h11 (show inR 4 by decide) ?_ ?_
    · exact rf_ok (by exact hR)
    · refine y_I hR hy yk164 yt164 (fun h14 => ?_)
      refine rf_ck (fun h15 => ?_)
      refine y_Q hR hy ya56.1 (by decide) ?_
      refine y_I hR hy yk164 yt164 (fun h17 => ?_)
      refine y_aI hR hy ya56 yl56 rfl h17 (fun h18 h19 => ?_)
      refine rf_ck (fun h20 => ?_)
      refine y_Q hR hy ya56.1 (by decide) ?_
      refine y_I hR hy yk164 yt164 (fun h22 => ?_)
      refine y_aI hR hy ya56 yl56 rfl h22 (fun h23 h24 => ?_)
      refine rf_ck (fun h25 => ?_)
      refine y_sI hR hy ya56 yl56 rfl h22 (e_add rfl (e_n 1)) h25 (fun g29 m27 hR28 => ?_)
      refine y_Q hR28 hy ya58.1 (by decide) ?_
      refine y_sI hR28 hy ya58 yl58 (e_add (e_mul (e_n 4) rfl) rfl) h20 (e_n 5) (show inR 5 by decide) (fun g34 m32 hR33 => ?_)
      refine rf_bind (fL_Y_setClass_76 hy rfl rv1 rfl rv2 (e_add (e_mul (e_n 4) rfl) rfl) h20 (f_n 20546947) (show inL 20546947 by decide) (e_n 0) (show inR 0 by decide) hR33) (fun a37 m36 h => ?_)
      have hR38 : RC w y a37 n m36 := h
      exact fk_Y_setClass_116 hy rfl rv1 rfl rv2 (e_add (e_mul (e_n 4) rfl) rfl) h20 hR38
  · exact fk_Y_setClass_116 hy rfl rv1 rfl rv2 rfl r5 hR
noncomputable def nb_Y_addElement_41 (v1 : Int) (v3 : Int) (v4 : Int) (m : YS) : Option ((Int × YS) ⊕ (YS)) :=
  if v4 < (m 79 0) then
    ck (v1 + v4) <|
    ix (v1 + v4) 2000 <|
    ix v4 8 <|
    st (yw m 78 v4 (m 159 (v1 + v4))) fun m9 =>
    ck (v4 + 1) <|
    some (.inl (v4 + 1, m9))
  else
    some (.inr m)
theorem fb_Y_addElement_41 {w y : Prop} {g : g_S} {n : NS} {m : YS} (hy : y) {xv1 : Int32} {v1 : Int} (ev1 : xv1 = Int32.ofInt v1) (rv1 : inR v1) {xv3 : Int32} {v3 : Int} (ev3 : xv3 = Int32.ofInt v3) (rv3 : inR v3) {xv4 : Int32} {v4 : Int} (ev4 : xv4 = Int32.ofInt v4) (rv4 : inR v4) (hR : RC w y g n m) : Rf (RS (fun a b => RI a.1 b.1 ∧ RC w y a.2 n b.2) (fun a b => RC w y a n b)) (b_Y_addElement_41 1838 xv1 xv3 xv4 g) (nb_Y_addElement_41 v1 v3 v4 m) := by
  subst ev1
  subst ev3
  subst ev4
  unfold b_Y_addElement_41 nb_Y_addElement_41
  refine y_I hR hy yk79 yt79 (fun h1 => ?_)
  refine rf_lt rfl rfl rv4 h1 ?_ ?_
  · refine y_Q hR hy ya78.1 (by decide) ?_
    refine y_Q hR hy ya159.1 (by decide) ?_
    refine rf_ck (fun h5 => ?_)
    refine y_aB hR hy ya159 yl159 (e_add rfl rfl) h5 (fun h6 h7 => ?_)
    refine y_sB hR hy ya78 yl78 rfl rv4 rfl h7 (fun g11 m9 hR10 => ?_)
    refine rf_ck (fun h12 => ?_)
    exact rf_ok (by exact ⟨⟨(e_add rfl (e_n 1)), h12⟩, hR10⟩)
  · exact rf_ok (by exact hR)
noncomputable def NL_Y_addElement_41 (v1 : Int) (v3 : Int) (v4 : Int) (m : YS) : Option (YS) :=
  it (fun s : Int × YS => nb_Y_addElement_41 v1 v3 s.1 s.2) (v4, m)
theorem fL_Y_addElement_41 {w y : Prop} {g : g_S} {n : NS} {m : YS} (hy : y) {xv1 : Int32} {v1 : Int} (ev1 : xv1 = Int32.ofInt v1) (rv1 : inR v1) {xv3 : Int32} {v3 : Int} (ev3 : xv3 = Int32.ofInt v3) (rv3 : inR v3) {xv4 : Int32} {v4 : Int} (ev4 : xv4 = Int32.ofInt v4) (rv4 : inR v4) (hR : RC w y g n m) : Rf (fun a b => RC w y a n b) (L_Y_addElement_41 1838 xv1 xv3 xv4 g) (NL_Y_addElement_41 v1 v3 v4 m) := by
  subst ev1
  subst ev3
  subst ev4
  unfold L_Y_addElement_41 NL_Y_addElement_41
  refine rf_it (I := (fun a b => RI a.1 b.1 ∧ RC w y a.2 n b.2)) (fun s t h => ?_) ⟨⟨rfl, rv4⟩, hR⟩
  exact fb_Y_addElement_41 hy rfl rv1 rfl rv3 h.1.1 h.1.2 h.2
theorem NL_Y_addElement_41_eq (v1 : Int) (v3 : Int) (v4 : Int) (m : YS) : NL_Y_addElement_41 v1 v3 v4 m = itc (nb_Y_addElement_41 v1 v3 v4 m) (fun s => NL_Y_addElement_41 v1 v3 s.1 s.2) := it_eq2 (fun s : Int × YS => nb_Y_addElement_41 v1 v3 s.1 s.2) (v4, m)
noncomputable def N_Y_addElement (v1 : Int) (v2 : Int) (m : YS) : Option (YS) :=
  ix (m 164 0) 120 <|
  (N_Y_isEmptyTag (m 46 (m 164 0)) m).bind fun z6 =>
  if z6 = 0 then
    (N_Y_fresh (m 164 0) m).bind <| u2 fun z12 m15 =>
    if z12 = (-1) then
      some m15
    else
      ck (v2 - v1) <|
      st (yw m15 79 0 (v2 - v1)) fun m22 =>
      (NL_Y_addElement_41 v1 z12 0 m22).bind <| fun m25 =>
      (N_Y_tagOf 78 0 (m25 79 0) m25).bind fun z31 =>
      (N_Y_element z12 z31 m25).bind fun m35 =>
      some m35
  else
    some m
theorem f_Y_addElement {w y : Prop} {g : g_S} {n : NS} {m : YS} (hy : y) {xv1 : Int32} {v1 : Int} (ev1 : xv1 = Int32.ofInt v1) (rv1 : inR v1) {xv2 : Int32} {v2 : Int} (ev2 : xv2 = Int32.ofInt v2) (rv2 : inR v2) (hR : RC w y g n m) : Rf (fun a b => RC w y a n b) (M_Y_addElement 1838 xv1 xv2 g) (N_Y_addElement v1 v2 m) := by
  subst ev1
  subst ev2
  unfold M_Y_addElement N_Y_addElement
  refine y_Q hR hy ya46.1 (by decide) ?_
  refine y_I hR hy yk164 yt164 (fun h2 => ?_)
  refine y_aI hR hy ya46 yl46 rfl h2 (fun h3 h4 => ?_)
  refine rf_bind (f_Y_isEmptyTag hy rfl h4 hR) (fun a8 z6 h => ?_)
  obtain ⟨rfl, r7⟩ := h
  refine rf_eq rfl (e_n 0) (inZ.r r7) (show inR 0 by decide) ?_ ?_
  · refine y_I hR hy yk164 yt164 (fun h10 => ?_)
    refine v_c2 (y_gt hR hy) ?_
    refine rf_c2 (f_Y_fresh hy rfl h10 hR) (fun a14 g17 b h => ?_)
    obtain ⟨z12, m15⟩ := b
    refine rf_v2 ?_
    obtain ⟨rfl, r13⟩ := (show RI a14 z12 from h.1)
    have hR16 : RC w y g17 n m15 := h.2
    refine rf_eq rfl (e_m 1) r13 (show inR (-1) by decide) ?_ ?_
    · exact rf_ok (by exact hR16)
    · refine rf_ck (fun h20 => ?_)
      refine y_pI hR16 hy yk79 ⟨yt79, yz79⟩ (e_sub rfl rfl) h20 (fun g24 m22 hR23 => ?_)
      refine rf_bind (fL_Y_addElement_41 hy rfl rv1 rfl r13 (e_n 0) (show inR 0 by decide) hR23) (fun a26 m25 h => ?_)
      have hR27 : RC w y a26 n m25 := h
      refine y_Q hR27 hy ya78.1 (by decide) ?_
      refine y_I hR27 hy yk79 yt79 (fun h29 => ?_)
      refine rf_bind (f_Y_tagOf hy rfl ya78 (e_n 0) (show inR 0 by decide) rfl h29 hR27) (fun a33 z31 h => ?_)
      obtain ⟨rfl, r32⟩ := h
      refine v_c (y_gt hR27 hy) ?_
      refine rf_bind (f_Y_element hy rfl r13 rfl r32 hR27) (fun g37 m35 hR36 => ?_)
      exact rf_ok (by exact hR36)
  · exact rf_ok (by exact hR)
noncomputable def N_Y_sameSite (v1 : Int) (v2 : Int) (m : YS) : Option (Int) :=
  (N_Y_siteEnd v1 m).bind fun z2 =>
  (N_Y_siteEnd v2 m).bind fun z6 =>
  if z6 = z2 then
    ck (v1 * 150) <|
    ck (v2 * 150) <|
    (N_Y_same 6 (v1 * 150) 6 (v2 * 150) z2 m).bind fun z15 =>
    if z15 = 0 then
      some 0
    else
      some 1
  else
    some 0
theorem f_Y_sameSite {w y : Prop} {g : g_S} {n : NS} {m : YS} (hy : y) {xv1 : Int32} {v1 : Int} (ev1 : xv1 = Int32.ofInt v1) (rv1 : inR v1) {xv2 : Int32} {v2 : Int} (ev2 : xv2 = Int32.ofInt v2) (rv2 : inR v2) (hR : RC w y g n m) : Rf (fun a b => RZ a b) (M_Y_sameSite 1838 xv1 xv2 g) (N_Y_sameSite v1 v2 m) := by
  subst ev1
  subst ev2
  unfold M_Y_sameSite N_Y_sameSite
  refine v_c (y_gt hR hy) ?_
  refine rf_bind (f_Y_siteEnd hy rfl rv1 hR) (fun a4 z2 h => ?_)
  obtain ⟨rfl, r3⟩ := h
  refine v_c (y_gt hR hy) ?_
  refine rf_bind (f_Y_siteEnd hy rfl rv2 hR) (fun a8 z6 h => ?_)
  obtain ⟨rfl, r7⟩ := h
  refine rf_eq rfl rfl r7 r3 ?_ ?_
  · refine y_Q hR hy ya6.1 (by decide) ?_
    refine rf_ck (fun h11 => ?_)
    refine y_Q hR hy ya6.1 (by decide) ?_
    refine rf_ck (fun h13 => ?_)
    refine rf_bind (f_Y_same hy rfl ya6 (e_mul rfl (e_n 150)) h11 rfl ya6 (e_mul rfl (e_n 150)) h13 rfl r3 hR) (fun a17 z15 h => ?_)
    obtain ⟨rfl, r16⟩ := h
    refine rf_eq rfl (e_n 0) (inZ.r r16) (show inR 0 by decide) ?_ ?_
    · exact rf_ok (by exact ⟨(e_n 0), (.inl rfl)⟩)
    · exact rf_ok (by exact ⟨(e_n 1), (.inr rfl)⟩)
  · exact rf_ok (by exact ⟨(e_n 0), (.inl rfl)⟩)
noncomputable def nk_Y_getStep_58 (m : YS) : Option (YS) :=
  if (m 44 0) < 0 then
    (N_Y_setText 159 0 0 m).bind fun m5 =>
    some m5
  else
    ck ((m 44 0) * 1500) <|
    ix (m 44 0) 20 <|
    (N_Y_setText 17 ((m 44 0) * 1500) (min 200 (m 18 (m 44 0))) m).bind fun m18 =>
    some m18
theorem fk_Y_getStep_58 {w y : Prop} {g : g_S} {n : NS} {m : YS} (hy : y) (hR : RC w y g n m) : Rf (fun a b => RC w y a n b) (k_Y_getStep_58 1838 g) (nk_Y_getStep_58 m) := by
  unfold k_Y_getStep_58 nk_Y_getStep_58
  refine y_I hR hy yk44 yt44 (fun h1 => ?_)
  refine rf_lt rfl (e_n 0) h1 (show inR 0 by decide) ?_ ?_
  · refine y_Q hR hy ya159.1 (by decide) ?_
    refine v_c (y_gt hR hy) ?_
    refine rf_bind (f_Y_setText hy rfl ya159 (e_n 0) (show inR 0 by decide) (e_n 0) (show inR 0 by decide) hR) (fun g7 m5 hR6 => ?_)
    exact rf_ok (by exact hR6)
  · refine y_Q hR hy ya17.1 (by decide) ?_
    refine y_I hR hy yk44 yt44 (fun h10 => ?_)
    refine rf_ck (fun h11 => ?_)
    refine y_Q hR hy ya18.1 (by decide) ?_
    refine y_I hR hy yk44 yt44 (fun h13 => ?_)
    refine y_aI hR hy ya18 yl18 rfl h13 (fun h14 h15 => ?_)
    refine v_c (y_gt hR hy) ?_
    refine rf_bind (f_Y_setText hy rfl ya17 (e_mul rfl (e_n 1500)) h11 (e_mn (e_n 200) rfl (show inR 200 by decide) h15) (min_r (show inR 200 by decide) h15) hR) (fun g20 m18 hR19 => ?_)
    exact rf_ok (by exact hR19)
noncomputable def nk_Y_getStep_47 (m : YS) : Option (YS) :=
  ck ((m 157 0) + 1) <|
  st (yw m 157 0 ((m 157 0) + 1)) fun m4 =>
  some m4
theorem fk_Y_getStep_47 {w y : Prop} {g : g_S} {n : NS} {m : YS} (hy : y) (hR : RC w y g n m) : Rf (fun a b => RC w y a n b) (k_Y_getStep_47 1838 g) (nk_Y_getStep_47 m) := by
  unfold k_Y_getStep_47 nk_Y_getStep_47
  refine y_I hR hy yk157 yt157 (fun h1 => ?_)
  refine rf_ck (fun h2 => ?_)
  refine y_pI hR hy yk157 ⟨yt157, yz157⟩ (e_add rfl (e_n 1)) h2 (fun g6 m4 hR5 => ?_)
  exact rf_ok (by exact hR5)
noncomputable def N_Y_getStep (v1 : Int) (v2 : Int) (m : YS) : Option (YS) :=
  (N_Y_refer 159 v1 v2 1 m).bind <| u2 fun z3 m6 =>
  if z3 = 0 then
    some m6
  else
    (N_Y_fetch m6).bind fun m12 =>
    (N_Y_sameSite 4 1 m12).bind fun z16 =>
    if z16 = 0 then
      if (m12 44 0) < 0 then
        nk_Y_getStep_47 m12
      else
        ix (m12 44 0) 20 <|
        if (m12 24 (m12 44 0)) = 0 then
          nk_Y_getStep_47 m12
        else
          nk_Y_getStep_58 m12
    else
      nk_Y_getStep_58 m12
theorem f_Y_getStep {w y : Prop} {g : g_S} {n : NS} {m : YS} (hy : y) {xv1 : Int32} {v1 : Int} (ev1 : xv1 = Int32.ofInt v1) (rv1 : inR v1) {xv2 : Int32} {v2 : Int} (ev2 : xv2 = Int32.ofInt v2) (rv2 : inR v2) (hR : RC w y g n m) : Rf (fun a b => RC w y a n b) (M_Y_getStep 1838 xv1 xv2 g) (N_Y_getStep v1 v2 m) := by
  subst ev1
  subst ev2
  unfold M_Y_getStep N_Y_getStep
  refine y_Q hR hy ya159.1 (by decide) ?_
  refine v_c2 (y_gt hR hy) ?_
  refine rf_c2 (f_Y_refer hy rfl ya159 rfl rv1 rfl rv2 (e_n 1) (show inR 1 by decide) hR) (fun a5 g8 b h => ?_)
  obtain ⟨z3, m6⟩ := b
  refine rf_v2 ?_
  obtain ⟨rfl, r4⟩ := (show RZ a5 z3 from h.1)
  have hR7 : RC w y g8 n m6 := h.2
  refine rf_eq rfl (e_n 0) (inZ.r r4) (show inR 0 by decide) ?_ ?_
  · exact rf_ok (by exact hR7)
  · refine v_c (y_gt hR7 hy) ?_
    refine rf_bind (f_Y_fetch hy hR7) (fun g14 m12 hR13 => ?_)
    refine v_c (y_gt hR13 hy) ?_
    refine rf_bind (f_Y_sameSite hy (e_n 4) (show inR 4 by decide) (e_n 1) (show inR 1 by decide) hR13) (fun a18 z16 h => ?_)
    obtain ⟨rfl, r17⟩ := h
    refine rf_eq rfl (e_n 0) (inZ.r r17) (show inR 0 by decide) ?_ ?_
    · refine y_I hR13 hy yk44 yt44 (fun h20 => ?_)
      refine rf_lt rfl (e_n 0) h20 (show inR 0 by decide) ?_ ?_
      · exact fk_Y_getStep_47 hy hR13
      · refine y_Q hR13 hy ya24.1 (by decide) ?_
        refine y_I hR13 hy yk44 yt44 (fun h23 => ?_)
        refine y_aZ hR13 hy ya24 yl24 rfl h23 (fun h24 h25 => ?_)
        refine rf_eq rfl (e_n 0) (inZ.r h25) (show inR 0 by decide) ?_ ?_
        · exact fk_Y_getStep_47 hy hR13
        · exact fk_Y_getStep_58 hy hR13
    · exact fk_Y_getStep_58 hy hR13
noncomputable def N_Y_readStep (v1 : Int) (v2 : Int) (m : YS) : Option (YS) :=
  ck (v2 - v1) <|
  (N_Y_stored v1 (v2 - v1) m).bind fun z3 =>
  if z3 = (-1) then
    (N_Y_setText 159 0 0 m).bind fun m9 =>
    some m9
  else
    ck (24 * z3) <|
    ck ((24 * z3) + 16) <|
    ix z3 20 <|
    (N_Y_setText 175 ((24 * z3) + 16) (m 178 z3) m).bind fun m20 =>
    some m20
theorem f_Y_readStep {w y : Prop} {g : g_S} {n : NS} {m : YS} (hy : y) {xv1 : Int32} {v1 : Int} (ev1 : xv1 = Int32.ofInt v1) (rv1 : inR v1) {xv2 : Int32} {v2 : Int} (ev2 : xv2 = Int32.ofInt v2) (rv2 : inR v2) (hR : RC w y g n m) : Rf (fun a b => RC w y a n b) (M_Y_readStep 1838 xv1 xv2 g) (N_Y_readStep v1 v2 m) := by
  subst ev1
  subst ev2
  unfold M_Y_readStep N_Y_readStep
  refine rf_ck (fun h1 => ?_)
  refine v_c (y_gt hR hy) ?_
  refine rf_bind (f_Y_stored hy rfl rv1 (e_sub rfl rfl) h1 hR) (fun a5 z3 h => ?_)
  obtain ⟨rfl, r4⟩ := h
  refine rf_eq rfl (e_m 1) r4 (show inR (-1) by decide) ?_ ?_
  · refine y_Q hR hy ya159.1 (by decide) ?_
    refine v_c (y_gt hR hy) ?_
    refine rf_bind (f_Y_setText hy rfl ya159 (e_n 0) (show inR 0 by decide) (e_n 0) (show inR 0 by decide) hR) (fun g11 m9 hR10 => ?_)
    exact rf_ok (by exact hR10)
  · refine y_Q hR hy ya175.1 (by decide) ?_
    refine rf_ck (fun h14 => ?_)
    refine rf_ck (fun h15 => ?_)
    refine y_Q hR hy ya178.1 (by decide) ?_
    refine y_aI hR hy ya178 yl178 rfl r4 (fun h17 h18 => ?_)
    refine v_c (y_gt hR hy) ?_
    refine rf_bind (f_Y_setText hy rfl ya175 (e_add (e_mul (e_n 24) rfl) (e_n 16)) h15 rfl h18 hR) (fun g22 m20 hR21 => ?_)
    exact rf_ok (by exact hR21)
noncomputable def nb_Y_step_2 (v1 : Int) (v2 : Int) (v3 : Int) (m : YS) : Option ((Int) ⊕ (Int)) :=
  if v3 < v2 then
    ix v3 2000 <|
    (N_Y_isSmall (m 159 v3) m).bind fun z6 =>
    if z6 = 0 then
      some (.inr v3)
    else
      ck (v3 + 1) <|
      some (.inl (v3 + 1))
  else
    some (.inr v3)
theorem fb_Y_step_2 {w y : Prop} {g : g_S} {n : NS} {m : YS} (hy : y) {xv1 : Int32} {v1 : Int} (ev1 : xv1 = Int32.ofInt v1) (rv1 : inR v1) {xv2 : Int32} {v2 : Int} (ev2 : xv2 = Int32.ofInt v2) (rv2 : inR v2) {xv3 : Int32} {v3 : Int} (ev3 : xv3 = Int32.ofInt v3) (rv3 : inR v3) (hR : RC w y g n m) : Rf (RS (fun a b => RI a b) (fun a b => RI a b)) (b_Y_step_2 1838 xv1 xv2 xv3 g) (nb_Y_step_2 v1 v2 v3 m) := by
  subst ev1
  subst ev2
  subst ev3
  unfold b_Y_step_2 nb_Y_step_2
  refine rf_lt rfl rfl rv3 rv2 ?_ ?_
  · refine y_Q hR hy ya159.1 (by decide) ?_
    refine y_aB hR hy ya159 yl159 rfl rv3 (fun h3 h4 => ?_)
    refine rf_bind (f_Y_isSmall hy rfl (inB.r h4) hR) (fun a8 z6 h => ?_)
    obtain ⟨rfl, r7⟩ := h
    refine rf_eq rfl (e_n 0) (inZ.r r7) (show inR 0 by decide) ?_ ?_
    · exact rf_ok (by exact ⟨rfl, rv3⟩)
    · refine rf_ck (fun h10 => ?_)
      exact rf_ok (by exact ⟨(e_add rfl (e_n 1)), h10⟩)
  · exact rf_ok (by exact ⟨rfl, rv3⟩)
noncomputable def NL_Y_step_2 (v1 : Int) (v2 : Int) (v3 : Int) (m : YS) : Option (Int) :=
  it (fun s : Int => nb_Y_step_2 v1 v2 s m) (v3)
theorem fL_Y_step_2 {w y : Prop} {g : g_S} {n : NS} {m : YS} (hy : y) {xv1 : Int32} {v1 : Int} (ev1 : xv1 = Int32.ofInt v1) (rv1 : inR v1) {xv2 : Int32} {v2 : Int} (ev2 : xv2 = Int32.ofInt v2) (rv2 : inR v2) {xv3 : Int32} {v3 : Int} (ev3 : xv3 = Int32.ofInt v3) (rv3 : inR v3) (hR : RC w y g n m) : Rf (fun a b => RI a b) (L_Y_step_2 1838 xv1 xv2 xv3 g) (NL_Y_step_2 v1 v2 v3 m) := by
  subst ev1
  subst ev2
  subst ev3
  unfold L_Y_step_2 NL_Y_step_2
  refine rf_it (I := (fun a b => RI a b)) (fun s t h => ?_) ⟨rfl, rv3⟩
  exact fb_Y_step_2 hy rfl rv1 rfl rv2 h.1 h.2 hR
theorem NL_Y_step_2_eq (v1 : Int) (v2 : Int) (v3 : Int) (m : YS) : NL_Y_step_2 v1 v2 v3 m = itc (nb_Y_step_2 v1 v2 v3 m) (fun s => NL_Y_step_2 v1 v2 s m) := it_eq2 (fun s : Int => nb_Y_step_2 v1 v2 s m) (v3)
noncomputable def nb_Y_step_31 (v1 : Int) (v2 : Int) (v3 : Int) (v4 : Int) (v5 : Int) (m : YS) : Option ((Int × Int) ⊕ (Int)) :=
  if v5 < 11 then
    (N_Y_stepWord v5 m).bind fun z3 =>
    (N_Y_lengthOf z3 m).bind fun z7 =>
    ck (v3 - v1) <|
    if z7 = (v3 - v1) then
      (N_Y_stepWord v5 m).bind fun z14 =>
      (N_Y_isWord 159 v1 v3 z14 m).bind fun z18 =>
      if z18 = 0 then
        ck (v5 + 1) <|
        some (.inl (v4, v5 + 1))
      else
        ck (v5 + 1) <|
        some (.inl (v5, v5 + 1))
    else
      ck (v5 + 1) <|
      some (.inl (v4, v5 + 1))
  else
    some (.inr v4)
theorem fb_Y_step_31 {w y : Prop} {g : g_S} {n : NS} {m : YS} (hy : y) {xv1 : Int32} {v1 : Int} (ev1 : xv1 = Int32.ofInt v1) (rv1 : inR v1) {xv2 : Int32} {v2 : Int} (ev2 : xv2 = Int32.ofInt v2) (rv2 : inR v2) {xv3 : Int32} {v3 : Int} (ev3 : xv3 = Int32.ofInt v3) (rv3 : inR v3) {xv4 : Int32} {v4 : Int} (ev4 : xv4 = Int32.ofInt v4) (rv4 : inR v4) {xv5 : Int32} {v5 : Int} (ev5 : xv5 = Int32.ofInt v5) (rv5 : inR v5) (hR : RC w y g n m) : Rf (RS (fun a b => RI a.1 b.1 ∧ RI a.2 b.2) (fun a b => RI a b)) (b_Y_step_31 1838 xv1 xv2 xv3 xv4 xv5 g) (nb_Y_step_31 v1 v2 v3 v4 v5 m) := by
  subst ev1
  subst ev2
  subst ev3
  subst ev4
  subst ev5
  unfold b_Y_step_31 nb_Y_step_31
  refine rf_lt rfl (e_n 11) rv5 (show inR 11 by decide) ?_ ?_
  · refine rf_bind (f_Y_stepWord hy rfl rv5 hR) (fun a5 z3 h => ?_)
    obtain ⟨rfl, r4⟩ := h
    refine rf_bind (f_Y_lengthOf hy rfl r4 hR) (fun a9 z7 h => ?_)
    obtain ⟨rfl, r8⟩ := h
    refine rf_ck (fun h10 => ?_)
    refine rf_eq rfl (e_sub rfl rfl) r8 h10 ?_ ?_
    · refine y_Q hR hy ya159.1 (by decide) ?_
      refine rf_bind (f_Y_stepWord hy rfl rv5 hR) (fun a16 z14 h => ?_)
      obtain ⟨rfl, r15⟩ := h
      refine rf_bind (f_Y_isWord hy rfl ya159 rfl rv1 rfl rv3 rfl r15 hR) (fun a20 z18 h => ?_)
      obtain ⟨rfl, r19⟩ := h
      refine rf_eq rfl (e_n 0) (inZ.r r19) (show inR 0 by decide) ?_ ?_
      · refine rf_ck (fun h22 => ?_)
        exact rf_ok (by exact ⟨⟨rfl, rv4⟩, ⟨(e_add rfl (e_n 1)), h22⟩⟩)
      · refine rf_ck (fun h23 => ?_)
        exact rf_ok (by exact ⟨⟨rfl, rv5⟩, ⟨(e_add rfl (e_n 1)), h23⟩⟩)
    · refine rf_ck (fun h24 => ?_)
      exact rf_ok (by exact ⟨⟨rfl, rv4⟩, ⟨(e_add rfl (e_n 1)), h24⟩⟩)
  · exact rf_ok (by exact ⟨rfl, rv4⟩)
noncomputable def NL_Y_step_31 (v1 : Int) (v2 : Int) (v3 : Int) (v4 : Int) (v5 : Int) (m : YS) : Option (Int) :=
  it (fun s : Int × Int => nb_Y_step_31 v1 v2 v3 s.1 s.2 m) (v4, v5)
theorem fL_Y_step_31 {w y : Prop} {g : g_S} {n : NS} {m : YS} (hy : y) {xv1 : Int32} {v1 : Int} (ev1 : xv1 = Int32.ofInt v1) (rv1 : inR v1) {xv2 : Int32} {v2 : Int} (ev2 : xv2 = Int32.ofInt v2) (rv2 : inR v2) {xv3 : Int32} {v3 : Int} (ev3 : xv3 = Int32.ofInt v3) (rv3 : inR v3) {xv4 : Int32} {v4 : Int} (ev4 : xv4 = Int32.ofInt v4) (rv4 : inR v4) {xv5 : Int32} {v5 : Int} (ev5 : xv5 = Int32.ofInt v5) (rv5 : inR v5) (hR : RC w y g n m) : Rf (fun a b => RI a b) (L_Y_step_31 1838 xv1 xv2 xv3 xv4 xv5 g) (NL_Y_step_31 v1 v2 v3 v4 v5 m) := by
  subst ev1
  subst ev2
  subst ev3
  subst ev4
  subst ev5
  unfold L_Y_step_31 NL_Y_step_31
  refine rf_it (I := (fun a b => RI a.1 b.1 ∧ RI a.2 b.2)) (fun s t h => ?_) ⟨⟨rfl, rv4⟩, ⟨rfl, rv5⟩⟩
  exact fb_Y_step_31 hy rfl rv1 rfl rv2 rfl rv3 h.1.1 h.1.2 h.2.1 h.2.2 hR
theorem NL_Y_step_31_eq (v1 : Int) (v2 : Int) (v3 : Int) (v4 : Int) (v5 : Int) (m : YS) : NL_Y_step_31 v1 v2 v3 v4 v5 m = itc (nb_Y_step_31 v1 v2 v3 v4 v5 m) (fun s => NL_Y_step_31 v1 v2 v3 s.1 s.2 m) := it_eq2 (fun s : Int × Int => nb_Y_step_31 v1 v2 v3 s.1 s.2 m) (v4, v5)
noncomputable def nb_Y_step_489 (v6 : Int) (v7 : Int) (m : YS) : Option ((Int × YS) ⊕ (YS)) :=
  ix (m 164 0) 120 <|
  if v7 < (m 65 (m 164 0)) then
    ck (24 * (m 164 0)) <|
    ck ((24 * (m 164 0)) + v7) <|
    ck (v6 + v7) <|
    ix (v6 + v7) 2000 <|
    ix ((24 * (m 164 0)) + v7) 2880 <|
    st (yw m 64 ((24 * (m 164 0)) + v7) (m 159 (v6 + v7))) fun m15 =>
    ck (v7 + 1) <|
    some (.inl (v7 + 1, m15))
  else
    some (.inr m)
theorem fb_Y_step_489 {w y : Prop} {g : g_S} {n : NS} {m : YS} (hy : y) {xv6 : Int32} {v6 : Int} (ev6 : xv6 = Int32.ofInt v6) (rv6 : inR v6) {xv7 : Int32} {v7 : Int} (ev7 : xv7 = Int32.ofInt v7) (rv7 : inR v7) (hR : RC w y g n m) : Rf (RS (fun a b => RI a.1 b.1 ∧ RC w y a.2 n b.2) (fun a b => RC w y a n b)) (b_Y_step_489 1838 xv6 xv7 g) (nb_Y_step_489 v6 v7 m) := by
  subst ev6
  subst ev7
  unfold b_Y_step_489 nb_Y_step_489
  refine y_Q hR hy ya65.1 (by decide) ?_
  refine y_I hR hy yk164 yt164 (fun h2 => ?_)
  refine y_aI hR hy ya65 yl65 rfl h2 (fun h3 h4 => ?_)
  refine rf_lt rfl rfl rv7 h4 ?_ ?_
  · refine y_Q hR hy ya64.1 (by decide) ?_
    refine y_I hR hy yk164 yt164 (fun h7 => ?_)
    refine rf_ck (fun h8 => ?_)
    refine rf_ck (fun h9 => ?_)
    refine y_Q hR hy ya159.1 (by decide) ?_
    refine rf_ck (fun h11 => ?_)
    refine y_aB hR hy ya159 yl159 (e_add rfl rfl) h11 (fun h12 h13 => ?_)
    refine y_sB hR hy ya64 yl64 (e_add (e_mul (e_n 24) rfl) rfl) h9 rfl h13 (fun g17 m15 hR16 => ?_)
    refine rf_ck (fun h18 => ?_)
    exact rf_ok (by exact ⟨⟨(e_add rfl (e_n 1)), h18⟩, hR16⟩)
  · exact rf_ok (by exact hR)
noncomputable def NL_Y_step_489 (v6 : Int) (v7 : Int) (m : YS) : Option (YS) :=
  it (fun s : Int × YS => nb_Y_step_489 v6 s.1 s.2) (v7, m)
theorem fL_Y_step_489 {w y : Prop} {g : g_S} {n : NS} {m : YS} (hy : y) {xv6 : Int32} {v6 : Int} (ev6 : xv6 = Int32.ofInt v6) (rv6 : inR v6) {xv7 : Int32} {v7 : Int} (ev7 : xv7 = Int32.ofInt v7) (rv7 : inR v7) (hR : RC w y g n m) : Rf (fun a b => RC w y a n b) (L_Y_step_489 1838 xv6 xv7 g) (NL_Y_step_489 v6 v7 m) := by
  subst ev6
  subst ev7
  unfold L_Y_step_489 NL_Y_step_489
  refine rf_it (I := (fun a b => RI a.1 b.1 ∧ RC w y a.2 n b.2)) (fun s t h => ?_) ⟨⟨rfl, rv7⟩, hR⟩
  exact fb_Y_step_489 hy rfl rv6 h.1.1 h.1.2 h.2
theorem NL_Y_step_489_eq (v6 : Int) (v7 : Int) (m : YS) : NL_Y_step_489 v6 v7 m = itc (nb_Y_step_489 v6 v7 m) (fun s => NL_Y_step_489 v6 s.1 s.2) := it_eq2 (fun s : Int × YS => nb_Y_step_489 v6 s.1 s.2) (v7, m)
noncomputable def nk_Y_step_545 (v2 : Int) (v6 : Int) (m : YS) : Option (Int × YS) :=
  (N_Y_readStep v6 v2 m).bind fun m2 =>
  some (1, m2)
theorem fk_Y_step_545 {w y : Prop} {g : g_S} {n : NS} {m : YS} (hy : y) {xv2 : Int32} {v2 : Int} (ev2 : xv2 = Int32.ofInt v2) (rv2 : inR v2) {xv6 : Int32} {v6 : Int} (ev6 : xv6 = Int32.ofInt v6) (rv6 : inR v6) (hR : RC w y g n m) : Rf (fun a b => RZ a.1 b.1 ∧ RC w y a.2 n b.2) (k_Y_step_545 1838 xv2 xv6 g) (nk_Y_step_545 v2 v6 m) := by
  subst ev2
  subst ev6
  unfold k_Y_step_545 nk_Y_step_545
  refine v_c (y_gt hR hy) ?_
  refine rf_bind (f_Y_readStep hy rfl rv6 rfl rv2 hR) (fun g4 m2 hR3 => ?_)
  exact rf_ok (by exact ⟨⟨(e_n 1), (.inr rfl)⟩, hR3⟩)
noncomputable def nk_Y_step_350 (v2 : Int) (v3 : Int) (v4 : Int) (v5 : Int) (v6 : Int) (m : YS) : Option (Int × YS) :=
  (N_Y_nodeOf v3 v5 m).bind fun z2 =>
  st (yw m 164 0 z2) fun m6 =>
  if (m6 164 0) = (-1) then
    some (0, m6)
  else
    (N_Y_changed m6).bind fun m13 =>
    if v4 = 0 then
      ck (v2 - v6) <|
      (N_Y_setText 159 v6 (v2 - v6) m13).bind fun m20 =>
      some (1, m20)
    else if v4 = 1 then
      (N_Y_setClass v6 v2 m13).bind fun m25 =>
      some (1, m25)
    else if v4 = 2 then
      (N_Y_addElement v6 v2 m13).bind fun m30 =>
      some (1, m30)
    else if v4 = 3 then
      nk_Y_step_545 v2 v6 m13
    else if v4 = 4 then
      ix (m13 164 0) 120 <|
      if (m13 46 (m13 164 0)) = 13 then
        ck (v2 - v6) <|
        ix (m13 164 0) 120 <|
        st (yw m13 65 (m13 164 0) (min 24 (v2 - v6))) fun m44 =>
        (NL_Y_step_489 v6 0 m44).bind <| fun m47 =>
        some (1, m47)
      else
        some (1, m13)
    else if v4 = 5 then
      nk_Y_step_545 v2 v6 m13
    else if v4 = 6 then
      (N_Y_getStep v6 v2 m13).bind fun m53 =>
      some (1, m53)
    else
      nk_Y_step_545 v2 v6 m13
theorem fk_Y_step_350 {w y : Prop} {g : g_S} {n : NS} {m : YS} (hy : y) {xv2 : Int32} {v2 : Int} (ev2 : xv2 = Int32.ofInt v2) (rv2 : inR v2) {xv3 : Int32} {v3 : Int} (ev3 : xv3 = Int32.ofInt v3) (rv3 : inR v3) {xv4 : Int32} {v4 : Int} (ev4 : xv4 = Int32.ofInt v4) (rv4 : inR v4) {xv5 : Int32} {v5 : Int} (ev5 : xv5 = Int32.ofInt v5) (rv5 : inR v5) {xv6 : Int32} {v6 : Int} (ev6 : xv6 = Int32.ofInt v6) (rv6 : inR v6) (hR : RC w y g n m) : Rf (fun a b => RZ a.1 b.1 ∧ RC w y a.2 n b.2) (k_Y_step_350 1838 xv2 xv3 xv4 xv5 xv6 g) (nk_Y_step_350 v2 v3 v4 v5 v6 m) := by
  subst ev2
  subst ev3
  subst ev4
  subst ev5
  subst ev6
  unfold k_Y_step_350 nk_Y_step_350
  refine v_c (y_gt hR hy) ?_
  refine rf_bind (f_Y_nodeOf hy rfl rv3 rfl rv5 hR) (fun a4 z2 h => ?_)
  obtain ⟨rfl, r3⟩ := h
  refine y_pI hR hy yk164 ⟨yt164, yz164⟩ rfl r3 (fun g8 m6 hR7 => ?_)
  refine y_I hR7 hy yk164 yt164 (fun h9 => ?_)
  refine rf_eq rfl (e_m 1) h9 (show inR (-1) by decide) ?_ ?_
  · exact rf_ok (by exact ⟨⟨(e_n 0), (.inl rfl)⟩, hR7⟩)
  · refine v_c (y_gt hR7 hy) ?_
    refine rf_bind (f_Y_changed hy hR7) (fun g15 m13 hR14 => ?_)
    refine rf_eq rfl (e_n 0) rv4 (show inR 0 by decide) ?_ ?_
    · refine y_Q hR14 hy ya159.1 (by decide) ?_
      refine rf_ck (fun h18 => ?_)
      refine v_c (y_gt hR14 hy) ?_
      refine rf_bind (f_Y_setText hy rfl ya159 rfl rv6 (e_sub rfl rfl) h18 hR14) (fun g22 m20 hR21 => ?_)
      exact rf_ok (by exact ⟨⟨(e_n 1), (.inr rfl)⟩, hR21⟩)
    refine rf_eq rfl (e_n 1) rv4 (show inR 1 by decide) ?_ ?_
    · refine v_c (y_gt hR14 hy) ?_
      refine rf_bind (f_Y_setClass hy rfl rv6 rfl rv2 hR14) (fun g27 m25 hR26 => ?_)
      exact rf_ok (by exact ⟨⟨(e_n 1), (.inr rfl)⟩, hR26⟩)
    refine rf_eq rfl (e_n 2) rv4 (show inR 2 by decide) ?_ ?_
    · refine v_c (y_gt hR14 hy) ?_
      refine rf_bind (f_Y_addElement hy rfl rv6 rfl rv2 hR14) (fun g32 m30 hR31 => ?_)
      exact rf_ok (by exact ⟨⟨(e_n 1), (.inr rfl)⟩, hR31⟩)
    refine rf_eq rfl (e_n 3) rv4 (show inR 3 by decide) ?_ ?_
    · exact fk_Y_step_545 hy rfl rv2 rfl rv6 hR14
    refine rf_eq rfl (e_n 4) rv4 (show inR 4 by decide) ?_ ?_
    · refine y_Q hR14 hy ya46.1 (by decide) ?_
      refine y_I hR14 hy yk164 yt164 (fun h35 => ?_)
      refine y_aI hR14 hy ya46 yl46 rfl h35 (fun h36 h37 => ?_)
      refine rf_eq rfl (e_n 13) h37 (show inR 13 by decide) ?_ ?_
      · refine y_Q hR14 hy ya65.1 (by decide) ?_
        refine y_I hR14 hy yk164 yt164 (fun h40 => ?_)
        refine rf_ck (fun h41 => ?_)
        refine y_sI hR14 hy ya65 yl65 rfl h40 (e_mn (e_n 24) (e_sub rfl rfl) (show inR 24 by decide) h41) (min_r (show inR 24 by decide) h41) (fun g46 m44 hR45 => ?_)
        refine rf_bind (fL_Y_step_489 hy rfl rv6 (e_n 0) (show inR 0 by decide) hR45) (fun a48 m47 h => ?_)
        have hR49 : RC w y a48 n m47 := h
        exact rf_ok (by exact ⟨⟨(e_n 1), (.inr rfl)⟩, hR49⟩)
      · exact rf_ok (by exact ⟨⟨(e_n 1), (.inr rfl)⟩, hR14⟩)
    refine rf_eq rfl (e_n 5) rv4 (show inR 5 by decide) ?_ ?_
    · exact fk_Y_step_545 hy rfl rv2 rfl rv6 hR14
    refine rf_eq rfl (e_n 6) rv4 (show inR 6 by decide) ?_ ?_
    · refine v_c (y_gt hR14 hy) ?_
      refine rf_bind (f_Y_getStep hy rfl rv6 rfl rv2 hR14) (fun g55 m53 hR54 => ?_)
      exact rf_ok (by exact ⟨⟨(e_n 1), (.inr rfl)⟩, hR54⟩)
    exact fk_Y_step_545 hy rfl rv2 rfl rv6 hR14
noncomputable def nk_Y_step_319 (v2 : Int) (v3 : Int) (v4 : Int) (v5 : Int) (v6 : Int) (m : YS) : Option (Int × YS) :=
  (N_Y_nameEnd 159 v6 v2 m).bind fun z3 =>
  if z3 = v6 then
    some (0, m)
  else
    (N_Y_nameEnd 159 v6 v2 m).bind fun z10 =>
    if z10 = v2 then
      nk_Y_step_350 v2 v3 v4 v5 v6 m
    else
      some (0, m)
theorem fk_Y_step_319 {w y : Prop} {g : g_S} {n : NS} {m : YS} (hy : y) {xv2 : Int32} {v2 : Int} (ev2 : xv2 = Int32.ofInt v2) (rv2 : inR v2) {xv3 : Int32} {v3 : Int} (ev3 : xv3 = Int32.ofInt v3) (rv3 : inR v3) {xv4 : Int32} {v4 : Int} (ev4 : xv4 = Int32.ofInt v4) (rv4 : inR v4) {xv5 : Int32} {v5 : Int} (ev5 : xv5 = Int32.ofInt v5) (rv5 : inR v5) {xv6 : Int32} {v6 : Int} (ev6 : xv6 = Int32.ofInt v6) (rv6 : inR v6) (hR : RC w y g n m) : Rf (fun a b => RZ a.1 b.1 ∧ RC w y a.2 n b.2) (k_Y_step_319 1838 xv2 xv3 xv4 xv5 xv6 g) (nk_Y_step_319 v2 v3 v4 v5 v6 m) := by
  subst ev2
  subst ev3
  subst ev4
  subst ev5
  subst ev6
  unfold k_Y_step_319 nk_Y_step_319
  refine y_Q hR hy ya159.1 (by decide) ?_
  refine rf_bind (f_Y_nameEnd hy rfl ya159 rfl rv6 rfl rv2 hR) (fun a5 z3 h => ?_)
  obtain ⟨rfl, r4⟩ := h
  refine rf_eq rfl rfl r4 rv6 ?_ ?_
  · exact rf_ok (by exact ⟨⟨(e_n 0), (.inl rfl)⟩, hR⟩)
  · refine y_Q hR hy ya159.1 (by decide) ?_
    refine rf_bind (f_Y_nameEnd hy rfl ya159 rfl rv6 rfl rv2 hR) (fun a12 z10 h => ?_)
    obtain ⟨rfl, r11⟩ := h
    refine rf_eq rfl rfl r11 rv2 ?_ ?_
    · exact fk_Y_step_350 hy rfl rv2 rfl rv3 rfl rv4 rfl rv5 rfl rv6 hR
    · exact rf_ok (by exact ⟨⟨(e_n 0), (.inl rfl)⟩, hR⟩)
noncomputable def nk_Y_step_246 (w0 : Int) (m : YS) : Option (Int × YS) :=
  st (yw m 164 0 w0) fun m2 =>
  if (m2 164 0) = (-1) then
    some (0, m2)
  else
    if 0 < (m2 164 0) then
      (N_Y_remove (m2 164 0) m2).bind fun m12 =>
      (N_Y_changed m12).bind fun m16 =>
      some (1, m16)
    else
      some (1, m2)
theorem fk_Y_step_246 {w y : Prop} {g : g_S} {n : NS} {m : YS} (hy : y) {xw0 : Int32} {w0 : Int} (ew0 : xw0 = Int32.ofInt w0) (rw0 : inR w0) (hR : RC w y g n m) : Rf (fun a b => RZ a.1 b.1 ∧ RC w y a.2 n b.2) (k_Y_step_246 1838 xw0 1838 g) (nk_Y_step_246 w0 m) := by
  subst ew0
  unfold k_Y_step_246 nk_Y_step_246
  refine y_pI hR hy yk164 ⟨yt164, yz164⟩ rfl rw0 (fun g4 m2 hR3 => ?_)
  refine y_I hR3 hy yk164 yt164 (fun h5 => ?_)
  refine rf_eq rfl (e_m 1) h5 (show inR (-1) by decide) ?_ ?_
  · exact rf_ok (by exact ⟨⟨(e_n 0), (.inl rfl)⟩, hR3⟩)
  · refine y_I hR3 hy yk164 yt164 (fun h8 => ?_)
    refine rf_lt (e_n 0) rfl (show inR 0 by decide) h8 ?_ ?_
    · refine y_I hR3 hy yk164 yt164 (fun h10 => ?_)
      refine v_c (y_gt hR3 hy) ?_
      refine rf_bind (f_Y_remove hy rfl h10 hR3) (fun g14 m12 hR13 => ?_)
      refine v_c (y_gt hR13 hy) ?_
      refine rf_bind (f_Y_changed hy hR13) (fun g18 m16 hR17 => ?_)
      exact rf_ok (by exact ⟨⟨(e_n 1), (.inr rfl)⟩, hR17⟩)
    · exact rf_ok (by exact ⟨⟨(e_n 1), (.inr rfl)⟩, hR3⟩)
noncomputable def nk_Y_step_112 (v2 : Int) (v3 : Int) (w0 : Int) (m : YS) : Option (Int × YS) :=
  cz w0 <|
  st (yw m 163 0 w0) fun m3 =>
  if v3 = v2 then
    some (1, m3)
  else
    some (0, m3)
theorem fk_Y_step_112 {w y : Prop} {g : g_S} {n : NS} {m : YS} (hy : y) {xv2 : Int32} {v2 : Int} (ev2 : xv2 = Int32.ofInt v2) (rv2 : inR v2) {xv3 : Int32} {v3 : Int} (ev3 : xv3 = Int32.ofInt v3) (rv3 : inR v3) {xw0 : Int32} {w0 : Int} (ew0 : xw0 = Int32.ofInt w0) (rw0 : inR w0) (hR : RC w y g n m) : Rf (fun a b => RZ a.1 b.1 ∧ RC w y a.2 n b.2) (k_Y_step_112 xv2 xv3 xw0 1838 g) (nk_Y_step_112 v2 v3 w0 m) := by
  subst ev2
  subst ev3
  subst ew0
  unfold k_Y_step_112 nk_Y_step_112
  refine rf_cz (fun h2 => ?_)
  refine y_pZ hR hy yk163 yt163 rfl h2 (fun g5 m3 hR4 => ?_)
  refine rf_eq rfl rfl rv3 rv2 ?_ ?_
  · exact rf_ok (by exact ⟨⟨(e_n 1), (.inr rfl)⟩, hR4⟩)
  · exact rf_ok (by exact ⟨⟨(e_n 0), (.inl rfl)⟩, hR4⟩)
noncomputable def nk_Y_step_107 (v2 : Int) (v3 : Int) (m : YS) : Option (Int × YS) :=
  nk_Y_step_112 v2 v3 1 m
theorem fk_Y_step_107 {w y : Prop} {g : g_S} {n : NS} {m : YS} (hy : y) {xv2 : Int32} {v2 : Int} (ev2 : xv2 = Int32.ofInt v2) (rv2 : inR v2) {xv3 : Int32} {v3 : Int} (ev3 : xv3 = Int32.ofInt v3) (rv3 : inR v3) (hR : RC w y g n m) : Rf (fun a b => RZ a.1 b.1 ∧ RC w y a.2 n b.2) (k_Y_step_107 xv2 xv3 1838 g) (nk_Y_step_107 v2 v3 m) := by
  subst ev2
  subst ev3
  unfold k_Y_step_107 nk_Y_step_107
  exact fk_Y_step_112 hy rfl rv2 rfl rv3 (e_n 1) (show inR 1 by decide) hR
noncomputable def nk_Y_step_25 (v1 : Int) (v2 : Int) (v3 : Int) (m : YS) : Option (Int × YS) :=
  (NL_Y_step_31 v1 v2 v3 (-1) 0 m).bind <| fun z1 =>
  if z1 = (-1) then
    some (0, m)
  else
    if z1 = 10 then
      if (m 163 0) = 0 then
        if v3 = v2 then
          nk_Y_step_107 v2 v3 m
        else
          nk_Y_step_112 v2 v3 0 m
      else
        nk_Y_step_107 v2 v3 m
    else
      if v3 = v2 then
        some (0, m)
      else
        ix v3 2000 <|
        if (m 159 v3) = 32 then
          ck (v3 + 1) <|
          if z1 = 5 then
            (N_Y_refer 159 (v3 + 1) v2 1 m).bind <| u2 fun z20 m23 =>
            if z20 = 0 then
              some (1, m23)
            else
              (N_Y_visitResult m23).bind fun m29 =>
              some (1, m29)
          else
            if z1 = 9 then
              (N_Y_waitStep (v3 + 1) v2 m).bind <| u2 fun z35 m38 =>
              some (z35, m38)
            else
              (N_Y_nameEnd 159 (v3 + 1) v2 m).bind fun z44 =>
              if z44 = (v3 + 1) then
                some (0, m)
              else
                if z1 = 7 then
                  (N_Y_putStep (v3 + 1) z44 v2 m).bind <| u2 fun z51 m54 =>
                  some (z51, m54)
                else
                  if z1 = 3 then
                    if z44 = v2 then
                      (N_Y_nodeOf (v3 + 1) z44 m).bind fun z61 =>
                      nk_Y_step_246 z61 m
                    else
                      nk_Y_step_246 (-1) m
                  else
                    if z44 = v2 then
                      some (0, m)
                    else
                      ix z44 2000 <|
                      if (m 159 z44) = 32 then
                        ck (z44 + 1) <|
                        if z1 = 2 then
                          nk_Y_step_319 v2 (v3 + 1) z1 z44 (z44 + 1) m
                        else
                          if z1 = 8 then
                            nk_Y_step_319 v2 (v3 + 1) z1 z44 (z44 + 1) m
                          else
                            nk_Y_step_350 v2 (v3 + 1) z1 z44 (z44 + 1) m
                      else
                        some (0, m)
        else
          some (0, m)
theorem fk_Y_step_25 {w y : Prop} {g : g_S} {n : NS} {m : YS} (hy : y) {xv1 : Int32} {v1 : Int} (ev1 : xv1 = Int32.ofInt v1) (rv1 : inR v1) {xv2 : Int32} {v2 : Int} (ev2 : xv2 = Int32.ofInt v2) (rv2 : inR v2) {xv3 : Int32} {v3 : Int} (ev3 : xv3 = Int32.ofInt v3) (rv3 : inR v3) (hR : RC w y g n m) : Rf (fun a b => RZ a.1 b.1 ∧ RC w y a.2 n b.2) (k_Y_step_25 1838 xv1 xv2 xv3 g) (nk_Y_step_25 v1 v2 v3 m) := by
  subst ev1
  subst ev2
  subst ev3
  unfold k_Y_step_25 nk_Y_step_25
  refine rf_bind (fL_Y_step_31 hy rfl rv1 rfl rv2 rfl rv3 (e_m 1) (show inR (-1) by decide) (e_n 0) (show inR 0 by decide) hR) (fun a2 z1 h => ?_)
  obtain ⟨rfl, r3⟩ := (show RI a2 z1 from h)
  refine rf_eq rfl (e_m 1) r3 (show inR (-1) by decide) ?_ ?_
  · exact rf_ok (by exact ⟨⟨(e_n 0), (.inl rfl)⟩, hR⟩)
  · refine rf_eq rfl (e_n 10) r3 (show inR 10 by decide) ?_ ?_
    · refine y_Z hR hy yk163 yt163 yz163 (fun h7 => ?_)
      refine rf_eq rfl (e_n 0) (inZ.r h7) (show inR 0 by decide) ?_ ?_
      · refine rf_eq rfl rfl rv3 rv2 ?_ ?_
        · exact fk_Y_step_107 hy rfl rv2 rfl rv3 hR
        · exact fk_Y_step_112 hy rfl rv2 rfl rv3 (e_n 0) (show inR 0 by decide) hR
      · exact fk_Y_step_107 hy rfl rv2 rfl rv3 hR
    · refine rf_eq rfl rfl rv3 rv2 ?_ ?_
      · exact rf_ok (by exact ⟨⟨(e_n 0), (.inl rfl)⟩, hR⟩)
      · refine y_Q hR hy ya159.1 (by decide) ?_
        refine y_aB hR hy ya159 yl159 rfl rv3 (fun h13 h14 => ?_)
        refine rf_eq rfl (e_n 32) (inB.r h14) (show inR 32 by decide) ?_ ?_
        · refine rf_ck (fun h16 => ?_)
          refine rf_eq rfl (e_n 5) r3 (show inR 5 by decide) ?_ ?_
          · refine y_Q hR hy ya159.1 (by decide) ?_
            refine v_c2 (y_gt hR hy) ?_
            refine rf_c2 (f_Y_refer hy rfl ya159 (e_add rfl (e_n 1)) h16 rfl rv2 (e_n 1) (show inR 1 by decide) hR) (fun a22 g25 b h => ?_)
            obtain ⟨z20, m23⟩ := b
            refine rf_v2 ?_
            obtain ⟨rfl, r21⟩ := (show RZ a22 z20 from h.1)
            have hR24 : RC w y g25 n m23 := h.2
            refine rf_eq rfl (e_n 0) (inZ.r r21) (show inR 0 by decide) ?_ ?_
            · exact rf_ok (by exact ⟨⟨(e_n 1), (.inr rfl)⟩, hR24⟩)
            · refine v_c (y_gt hR24 hy) ?_
              refine rf_bind (f_Y_visitResult hy hR24) (fun g31 m29 hR30 => ?_)
              exact rf_ok (by exact ⟨⟨(e_n 1), (.inr rfl)⟩, hR30⟩)
          · refine rf_eq rfl (e_n 9) r3 (show inR 9 by decide) ?_ ?_
            · refine v_c2 (y_gt hR hy) ?_
              refine rf_c2 (f_Y_waitStep hy (e_add rfl (e_n 1)) h16 rfl rv2 hR) (fun a37 g40 b h => ?_)
              obtain ⟨z35, m38⟩ := b
              refine rf_v2 ?_
              obtain ⟨rfl, r36⟩ := (show RZ a37 z35 from h.1)
              have hR39 : RC w y g40 n m38 := h.2
              refine rf_tz rfl r36 ?_
              exact rf_ok (by exact ⟨⟨rfl, r36⟩, hR39⟩)
            · refine y_Q hR hy ya159.1 (by decide) ?_
              refine rf_bind (f_Y_nameEnd hy rfl ya159 (e_add rfl (e_n 1)) h16 rfl rv2 hR) (fun a46 z44 h => ?_)
              obtain ⟨rfl, r45⟩ := h
              refine rf_eq rfl (e_add rfl (e_n 1)) r45 h16 ?_ ?_
              · exact rf_ok (by exact ⟨⟨(e_n 0), (.inl rfl)⟩, hR⟩)
              · refine rf_eq rfl (e_n 7) r3 (show inR 7 by decide) ?_ ?_
                · refine v_c2 (y_gt hR hy) ?_
                  refine rf_c2 (f_Y_putStep hy (e_add rfl (e_n 1)) h16 rfl r45 rfl rv2 hR) (fun a53 g56 b h => ?_)
                  obtain ⟨z51, m54⟩ := b
                  refine rf_v2 ?_
                  obtain ⟨rfl, r52⟩ := (show RZ a53 z51 from h.1)
                  have hR55 : RC w y g56 n m54 := h.2
                  refine rf_tz rfl r52 ?_
                  exact rf_ok (by exact ⟨⟨rfl, r52⟩, hR55⟩)
                · refine rf_eq rfl (e_n 3) r3 (show inR 3 by decide) ?_ ?_
                  · refine rf_eq rfl rfl r45 rv2 ?_ ?_
                    · refine v_c (y_gt hR hy) ?_
                      refine rf_bind (f_Y_nodeOf hy (e_add rfl (e_n 1)) h16 rfl r45 hR) (fun a63 z61 h => ?_)
                      obtain ⟨rfl, r62⟩ := h
                      exact fk_Y_step_246 hy rfl r62 hR
                    · exact fk_Y_step_246 hy (e_m 1) (show inR (-1) by decide) hR
                  · refine rf_eq rfl rfl r45 rv2 ?_ ?_
                    · exact rf_ok (by exact ⟨⟨(e_n 0), (.inl rfl)⟩, hR⟩)
                    · refine y_Q hR hy ya159.1 (by decide) ?_
                      refine y_aB hR hy ya159 yl159 rfl r45 (fun h67 h68 => ?_)
                      refine rf_eq rfl (e_n 32) (inB.r h68) (show inR 32 by decide) ?_ ?_
                      · refine rf_ck (fun h70 => ?_)
                        refine rf_eq rfl (e_n 2) r3 (show inR 2 by decide) ?_ ?_
                        · exact fk_Y_step_319 hy rfl rv2 (e_add rfl (e_n 1)) h16 rfl r3 rfl r45 (e_add rfl (e_n 1)) h70 hR
                        · refine rf_eq rfl (e_n 8) r3 (show inR 8 by decide) ?_ ?_
                          · exact fk_Y_step_319 hy rfl rv2 (e_add rfl (e_n 1)) h16 rfl r3 rfl r45 (e_add rfl (e_n 1)) h70 hR
                          · exact fk_Y_step_350 hy rfl rv2 (e_add rfl (e_n 1)) h16 rfl r3 rfl r45 (e_add rfl (e_n 1)) h70 hR
                      · exact rf_ok (by exact ⟨⟨(e_n 0), (.inl rfl)⟩, hR⟩)
        · exact rf_ok (by exact ⟨⟨(e_n 0), (.inl rfl)⟩, hR⟩)
noncomputable def N_Y_step (v1 : Int) (v2 : Int) (m : YS) : Option (Int × YS) :=
  (NL_Y_step_2 v1 v2 v1 m).bind <| fun z1 =>
  nk_Y_step_25 v1 v2 z1 m
theorem f_Y_step {w y : Prop} {g : g_S} {n : NS} {m : YS} (hy : y) {xv1 : Int32} {v1 : Int} (ev1 : xv1 = Int32.ofInt v1) (rv1 : inR v1) {xv2 : Int32} {v2 : Int} (ev2 : xv2 = Int32.ofInt v2) (rv2 : inR v2) (hR : RC w y g n m) : Rf (fun a b => RZ a.1 b.1 ∧ RC w y a.2 n b.2) (M_Y_step 1838 xv1 xv2 g) (N_Y_step v1 v2 m) := by
  subst ev1
  subst ev2
  unfold M_Y_step N_Y_step
  refine rf_bind (fL_Y_step_2 hy rfl rv1 rfl rv2 rfl rv1 hR) (fun a2 z1 h => ?_)
  obtain ⟨rfl, r3⟩ := (show RI a2 z1 from h)
  exact fk_Y_step_25 hy rfl rv1 rfl rv2 rfl r3 hR
noncomputable def nk_Y_oneStep_42 (m : YS) : Option (YS) :=
  if (m 158 0) = 200 then
    st (yw m 154 0 1) fun m4 =>
    some m4
  else
    some m
theorem fk_Y_oneStep_42 {w y : Prop} {g : g_S} {n : NS} {m : YS} (hy : y) (hR : RC w y g n m) : Rf (fun a b => RC w y a n b) (k_Y_oneStep_42 1838 g) (nk_Y_oneStep_42 m) := by
  unfold k_Y_oneStep_42 nk_Y_oneStep_42
  refine y_I hR hy yk158 yt158 (fun h1 => ?_)
  refine rf_eq rfl (e_n 200) h1 (show inR 200 by decide) ?_ ?_
  · refine y_pZ hR hy yk154 yt154 (e_n 1) (.inr rfl) (fun g6 m4 hR5 => ?_)
    exact rf_ok (by exact hR5)
  · exact rf_ok (by exact hR)
noncomputable def N_Y_oneStep (v1 : Int) (v2 : Int) (m : YS) : Option (YS) :=
  ck ((m 158 0) + 1) <|
  st (yw m 158 0 ((m 158 0) + 1)) fun m4 =>
  (N_Y_step v1 v2 m4).bind <| u2 fun z8 m11 =>
  if z8 = 0 then
    ck ((m11 156 0) + 1) <|
    st (yw m11 156 0 ((m11 156 0) + 1)) fun m18 =>
    nk_Y_oneStep_42 m18
  else
    ck ((m11 155 0) + 1) <|
    st (yw m11 155 0 ((m11 155 0) + 1)) fun m24 =>
    nk_Y_oneStep_42 m24
theorem f_Y_oneStep {w y : Prop} {g : g_S} {n : NS} {m : YS} (hy : y) {xv1 : Int32} {v1 : Int} (ev1 : xv1 = Int32.ofInt v1) (rv1 : inR v1) {xv2 : Int32} {v2 : Int} (ev2 : xv2 = Int32.ofInt v2) (rv2 : inR v2) (hR : RC w y g n m) : Rf (fun a b => RC w y a n b) (M_Y_oneStep 1838 xv1 xv2 g) (N_Y_oneStep v1 v2 m) := by
  subst ev1
  subst ev2
  unfold M_Y_oneStep N_Y_oneStep
  refine y_I hR hy yk158 yt158 (fun h1 => ?_)
  refine rf_ck (fun h2 => ?_)
  refine y_pI hR hy yk158 ⟨yt158, yz158⟩ (e_add rfl (e_n 1)) h2 (fun g6 m4 hR5 => ?_)
  refine v_c2 (y_gt hR5 hy) ?_
  refine rf_c2 (f_Y_step hy rfl rv1 rfl rv2 hR5) (fun a10 g13 b h => ?_)
  obtain ⟨z8, m11⟩ := b
  refine rf_v2 ?_
  obtain ⟨rfl, r9⟩ := (show RZ a10 z8 from h.1)
  have hR12 : RC w y g13 n m11 := h.2
  refine rf_eq rfl (e_n 0) (inZ.r r9) (show inR 0 by decide) ?_ ?_
  · refine y_I hR12 hy yk156 yt156 (fun h15 => ?_)
    refine rf_ck (fun h16 => ?_)
    refine y_pI hR12 hy yk156 ⟨yt156, yz156⟩ (e_add rfl (e_n 1)) h16 (fun g20 m18 hR19 => ?_)
    exact fk_Y_oneStep_42 hy hR19
  · refine y_I hR12 hy yk155 yt155 (fun h21 => ?_)
    refine rf_ck (fun h22 => ?_)
    refine y_pI hR12 hy yk155 ⟨yt155, yz155⟩ (e_add rfl (e_n 1)) h22 (fun g26 m24 hR25 => ?_)
    exact fk_Y_oneStep_42 hy hR25
noncomputable def nb_Y_runScript_53 (v2 : Int) (v3 : Int) (m : YS) : Option ((Int) ⊕ (Int)) :=
  if v3 < v2 then
    ix v3 2000 <|
    (N_Y_isBlank (m 159 v3) m).bind fun z6 =>
    if z6 = 0 then
      some (.inr v3)
    else
      ck (v3 + 1) <|
      some (.inl (v3 + 1))
  else
    some (.inr v3)
theorem fb_Y_runScript_53 {w y : Prop} {g : g_S} {n : NS} {m : YS} (hy : y) {xv2 : Int32} {v2 : Int} (ev2 : xv2 = Int32.ofInt v2) (rv2 : inR v2) {xv3 : Int32} {v3 : Int} (ev3 : xv3 = Int32.ofInt v3) (rv3 : inR v3) (hR : RC w y g n m) : Rf (RS (fun a b => RI a b) (fun a b => RI a b)) (b_Y_runScript_53 1838 xv2 xv3 g) (nb_Y_runScript_53 v2 v3 m) := by
  subst ev2
  subst ev3
  unfold b_Y_runScript_53 nb_Y_runScript_53
  refine rf_lt rfl rfl rv3 rv2 ?_ ?_
  · refine y_Q hR hy ya159.1 (by decide) ?_
    refine y_aB hR hy ya159 yl159 rfl rv3 (fun h3 h4 => ?_)
    refine rf_bind (f_Y_isBlank hy rfl (inB.r h4) hR) (fun a8 z6 h => ?_)
    obtain ⟨rfl, r7⟩ := h
    refine rf_eq rfl (e_n 0) (inZ.r r7) (show inR 0 by decide) ?_ ?_
    · exact rf_ok (by exact ⟨rfl, rv3⟩)
    · refine rf_ck (fun h10 => ?_)
      exact rf_ok (by exact ⟨(e_add rfl (e_n 1)), h10⟩)
  · exact rf_ok (by exact ⟨rfl, rv3⟩)
noncomputable def NL_Y_runScript_53 (v2 : Int) (v3 : Int) (m : YS) : Option (Int) :=
  it (fun s : Int => nb_Y_runScript_53 v2 s m) (v3)
theorem fL_Y_runScript_53 {w y : Prop} {g : g_S} {n : NS} {m : YS} (hy : y) {xv2 : Int32} {v2 : Int} (ev2 : xv2 = Int32.ofInt v2) (rv2 : inR v2) {xv3 : Int32} {v3 : Int} (ev3 : xv3 = Int32.ofInt v3) (rv3 : inR v3) (hR : RC w y g n m) : Rf (fun a b => RI a b) (L_Y_runScript_53 1838 xv2 xv3 g) (NL_Y_runScript_53 v2 v3 m) := by
  subst ev2
  subst ev3
  unfold L_Y_runScript_53 NL_Y_runScript_53
  refine rf_it (I := (fun a b => RI a b)) (fun s t h => ?_) ⟨rfl, rv3⟩
  exact fb_Y_runScript_53 hy rfl rv2 h.1 h.2 hR
theorem NL_Y_runScript_53_eq (v2 : Int) (v3 : Int) (m : YS) : NL_Y_runScript_53 v2 v3 m = itc (nb_Y_runScript_53 v2 v3 m) (fun s => NL_Y_runScript_53 v2 s m) := it_eq2 (fun s : Int => nb_Y_runScript_53 v2 s m) (v3)
noncomputable def nb_Y_runScript_26 (v1 : Int) (v2 : Int) (m : YS) : Option ((Int) ⊕ (Int)) :=
  if v2 < (m 160 0) then
    ix v2 2000 <|
    if (m 159 v2) = 59 then
      some (.inr v2)
    else
      ck (v2 + 1) <|
      some (.inl (v2 + 1))
  else
    some (.inr v2)
theorem fb_Y_runScript_26 {w y : Prop} {g : g_S} {n : NS} {m : YS} (hy : y) {xv1 : Int32} {v1 : Int} (ev1 : xv1 = Int32.ofInt v1) (rv1 : inR v1) {xv2 : Int32} {v2 : Int} (ev2 : xv2 = Int32.ofInt v2) (rv2 : inR v2) (hR : RC w y g n m) : Rf (RS (fun a b => RI a b) (fun a b => RI a b)) (b_Y_runScript_26 1838 xv1 xv2 g) (nb_Y_runScript_26 v1 v2 m) := by
  subst ev1
  subst ev2
  unfold b_Y_runScript_26 nb_Y_runScript_26
  refine y_I hR hy yk160 yt160 (fun h1 => ?_)
  refine rf_lt rfl rfl rv2 h1 ?_ ?_
  · refine y_Q hR hy ya159.1 (by decide) ?_
    refine y_aB hR hy ya159 yl159 rfl rv2 (fun h4 h5 => ?_)
    refine rf_eq rfl (e_n 59) (inB.r h5) (show inR 59 by decide) ?_ ?_
    · exact rf_ok (by exact ⟨rfl, rv2⟩)
    · refine rf_ck (fun h7 => ?_)
      exact rf_ok (by exact ⟨(e_add rfl (e_n 1)), h7⟩)
  · exact rf_ok (by exact ⟨rfl, rv2⟩)
noncomputable def NL_Y_runScript_26 (v1 : Int) (v2 : Int) (m : YS) : Option (Int) :=
  it (fun s : Int => nb_Y_runScript_26 v1 s m) (v2)
theorem fL_Y_runScript_26 {w y : Prop} {g : g_S} {n : NS} {m : YS} (hy : y) {xv1 : Int32} {v1 : Int} (ev1 : xv1 = Int32.ofInt v1) (rv1 : inR v1) {xv2 : Int32} {v2 : Int} (ev2 : xv2 = Int32.ofInt v2) (rv2 : inR v2) (hR : RC w y g n m) : Rf (fun a b => RI a b) (L_Y_runScript_26 1838 xv1 xv2 g) (NL_Y_runScript_26 v1 v2 m) := by
  subst ev1
  subst ev2
  unfold L_Y_runScript_26 NL_Y_runScript_26
  refine rf_it (I := (fun a b => RI a b)) (fun s t h => ?_) ⟨rfl, rv2⟩
  exact fb_Y_runScript_26 hy rfl rv1 h.1 h.2 hR
theorem NL_Y_runScript_26_eq (v1 : Int) (v2 : Int) (m : YS) : NL_Y_runScript_26 v1 v2 m = itc (nb_Y_runScript_26 v1 v2 m) (fun s => NL_Y_runScript_26 v1 s m) := it_eq2 (fun s : Int => nb_Y_runScript_26 v1 s m) (v2)
noncomputable def nk_Y_runScript_105 (v2 : Int) (m : YS) : Option ((Int × YS) ⊕ (YS)) :=
  ck (v2 + 1) <|
  some (.inl (v2 + 1, m))
theorem fk_Y_runScript_105 {w y : Prop} {g : g_S} {n : NS} {m : YS} (hy : y) {xv2 : Int32} {v2 : Int} (ev2 : xv2 = Int32.ofInt v2) (rv2 : inR v2) (hR : RC w y g n m) : Rf (RS (fun a b => RI a.1 b.1 ∧ RC w y a.2 n b.2) (fun a b => RC w y a n b)) (k_Y_runScript_105 1838 xv2 g) (nk_Y_runScript_105 v2 m) := by
  subst ev2
  unfold k_Y_runScript_105 nk_Y_runScript_105
  refine rf_ck (fun h1 => ?_)
  exact rf_ok (by exact ⟨⟨(e_add rfl (e_n 1)), h1⟩, hR⟩)
noncomputable def nk_Y_runScript_76 (v2 : Int) (v3 : Int) (m : YS) : Option ((Int × YS) ⊕ (YS)) :=
  if v3 < v2 then
    if (m 158 0) = 200 then
      st (yw m 154 0 1) fun m5 =>
      nk_Y_runScript_105 v2 m5
    else
      (N_Y_oneStep v3 v2 m).bind fun m9 =>
      nk_Y_runScript_105 v2 m9
  else
    nk_Y_runScript_105 v2 m
theorem fk_Y_runScript_76 {w y : Prop} {g : g_S} {n : NS} {m : YS} (hy : y) {xv2 : Int32} {v2 : Int} (ev2 : xv2 = Int32.ofInt v2) (rv2 : inR v2) {xv3 : Int32} {v3 : Int} (ev3 : xv3 = Int32.ofInt v3) (rv3 : inR v3) (hR : RC w y g n m) : Rf (RS (fun a b => RI a.1 b.1 ∧ RC w y a.2 n b.2) (fun a b => RC w y a n b)) (k_Y_runScript_76 1838 xv2 xv3 g) (nk_Y_runScript_76 v2 v3 m) := by
  subst ev2
  subst ev3
  unfold k_Y_runScript_76 nk_Y_runScript_76
  refine rf_lt rfl rfl rv3 rv2 ?_ ?_
  · refine y_I hR hy yk158 yt158 (fun h2 => ?_)
    refine rf_eq rfl (e_n 200) h2 (show inR 200 by decide) ?_ ?_
    · refine y_pZ hR hy yk154 yt154 (e_n 1) (.inr rfl) (fun g7 m5 hR6 => ?_)
      exact fk_Y_runScript_105 hy rfl rv2 hR6
    · refine v_c (y_gt hR hy) ?_
      refine rf_bind (f_Y_oneStep hy rfl rv3 rfl rv2 hR) (fun g11 m9 hR10 => ?_)
      exact fk_Y_runScript_105 hy rfl rv2 hR10
  · exact fk_Y_runScript_105 hy rfl rv2 hR
noncomputable def nk_Y_runScript_51 (v1 : Int) (v2 : Int) (m : YS) : Option ((Int × YS) ⊕ (YS)) :=
  (NL_Y_runScript_53 v2 v1 m).bind <| fun z1 =>
  nk_Y_runScript_76 v2 z1 m
theorem fk_Y_runScript_51 {w y : Prop} {g : g_S} {n : NS} {m : YS} (hy : y) {xv1 : Int32} {v1 : Int} (ev1 : xv1 = Int32.ofInt v1) (rv1 : inR v1) {xv2 : Int32} {v2 : Int} (ev2 : xv2 = Int32.ofInt v2) (rv2 : inR v2) (hR : RC w y g n m) : Rf (RS (fun a b => RI a.1 b.1 ∧ RC w y a.2 n b.2) (fun a b => RC w y a n b)) (k_Y_runScript_51 1838 xv1 xv2 g) (nk_Y_runScript_51 v1 v2 m) := by
  subst ev1
  subst ev2
  unfold k_Y_runScript_51 nk_Y_runScript_51
  refine rf_bind (fL_Y_runScript_53 hy rfl rv2 rfl rv1 hR) (fun a2 z1 h => ?_)
  obtain ⟨rfl, r3⟩ := (show RI a2 z1 from h)
  exact fk_Y_runScript_76 hy rfl rv2 rfl r3 hR
noncomputable def nb_Y_runScript_2 (v1 : Int) (m : YS) : Option ((Int × YS) ⊕ (YS)) :=
  if (m 160 0) < v1 then
    some (.inr m)
  else
    if (m 152 0) = 0 then
      if (m 154 0) = 0 then
        (NL_Y_runScript_26 v1 v1 m).bind <| fun z7 =>
        nk_Y_runScript_51 v1 z7 m
      else
        some (.inr m)
    else
      some (.inr m)
theorem fb_Y_runScript_2 {w y : Prop} {g : g_S} {n : NS} {m : YS} (hy : y) {xv1 : Int32} {v1 : Int} (ev1 : xv1 = Int32.ofInt v1) (rv1 : inR v1) (hR : RC w y g n m) : Rf (RS (fun a b => RI a.1 b.1 ∧ RC w y a.2 n b.2) (fun a b => RC w y a n b)) (b_Y_runScript_2 1838 xv1 g) (nb_Y_runScript_2 v1 m) := by
  subst ev1
  unfold b_Y_runScript_2 nb_Y_runScript_2
  refine y_I hR hy yk160 yt160 (fun h1 => ?_)
  refine rf_lt rfl rfl h1 rv1 ?_ ?_
  · exact rf_ok (by exact hR)
  · refine y_Z hR hy yk152 yt152 yz152 (fun h3 => ?_)
    refine rf_eq rfl (e_n 0) (inZ.r h3) (show inR 0 by decide) ?_ ?_
    · refine y_Z hR hy yk154 yt154 yz154 (fun h5 => ?_)
      refine rf_eq rfl (e_n 0) (inZ.r h5) (show inR 0 by decide) ?_ ?_
      · refine rf_bind (fL_Y_runScript_26 hy rfl rv1 rfl rv1 hR) (fun a8 z7 h => ?_)
        obtain ⟨rfl, r9⟩ := (show RI a8 z7 from h)
        exact fk_Y_runScript_51 hy rfl rv1 rfl r9 hR
      · exact rf_ok (by exact hR)
    · exact rf_ok (by exact hR)
noncomputable def NL_Y_runScript_2 (v1 : Int) (m : YS) : Option (YS) :=
  it (fun s : Int × YS => nb_Y_runScript_2 s.1 s.2) (v1, m)
theorem fL_Y_runScript_2 {w y : Prop} {g : g_S} {n : NS} {m : YS} (hy : y) {xv1 : Int32} {v1 : Int} (ev1 : xv1 = Int32.ofInt v1) (rv1 : inR v1) (hR : RC w y g n m) : Rf (fun a b => RC w y a n b) (L_Y_runScript_2 1838 xv1 g) (NL_Y_runScript_2 v1 m) := by
  subst ev1
  unfold L_Y_runScript_2 NL_Y_runScript_2
  refine rf_it (I := (fun a b => RI a.1 b.1 ∧ RC w y a.2 n b.2)) (fun s t h => ?_) ⟨⟨rfl, rv1⟩, hR⟩
  exact fb_Y_runScript_2 hy h.1.1 h.1.2 h.2
theorem NL_Y_runScript_2_eq (v1 : Int) (m : YS) : NL_Y_runScript_2 v1 m = itc (nb_Y_runScript_2 v1 m) (fun s => NL_Y_runScript_2 s.1 s.2) := it_eq2 (fun s : Int × YS => nb_Y_runScript_2 s.1 s.2) (v1, m)
noncomputable def N_Y_runScript (m : YS) : Option (YS) :=
  (NL_Y_runScript_2 0 m).bind <| fun m1 =>
  some m1
theorem f_Y_runScript {w y : Prop} {g : g_S} {n : NS} {m : YS} (hy : y) (hR : RC w y g n m) : Rf (fun a b => RC w y a n b) (M_Y_runScript 1838 g) (N_Y_runScript m) := by
  unfold M_Y_runScript N_Y_runScript
  refine rf_bind (fL_Y_runScript_2 hy (e_n 0) (show inR 0 by decide) hR) (fun a2 m1 h => ?_)
  have hR3 : RC w y a2 n m1 := h
  exact rf_ok (by exact hR3)
noncomputable def nb_Y_listen_54 (v4 : Int) (v5 : Int) (v6 : Int) (m : YS) : Option ((Int × YS) ⊕ (YS)) :=
  if v6 < (m 160 0) then
    ck (60 * v5) <|
    ck ((60 * v5) + v6) <|
    ix ((60 * v5) + v6) 28800 <|
    ix v6 2000 <|
    st (yw m 159 v6 (m 59 ((60 * v5) + v6))) fun m10 =>
    ck (v6 + 1) <|
    some (.inl (v6 + 1, m10))
  else
    some (.inr m)
theorem fb_Y_listen_54 {w y : Prop} {g : g_S} {n : NS} {m : YS} (hy : y) {xv4 : Int32} {v4 : Int} (ev4 : xv4 = Int32.ofInt v4) (rv4 : inR v4) {xv5 : Int32} {v5 : Int} (ev5 : xv5 = Int32.ofInt v5) (rv5 : inR v5) {xv6 : Int32} {v6 : Int} (ev6 : xv6 = Int32.ofInt v6) (rv6 : inR v6) (hR : RC w y g n m) : Rf (RS (fun a b => RI a.1 b.1 ∧ RC w y a.2 n b.2) (fun a b => RC w y a n b)) (b_Y_listen_54 1838 xv4 xv5 xv6 g) (nb_Y_listen_54 v4 v5 v6 m) := by
  subst ev4
  subst ev5
  subst ev6
  unfold b_Y_listen_54 nb_Y_listen_54
  refine y_I hR hy yk160 yt160 (fun h1 => ?_)
  refine rf_lt rfl rfl rv6 h1 ?_ ?_
  · refine y_Q hR hy ya159.1 (by decide) ?_
    refine y_Q hR hy ya59.1 (by decide) ?_
    refine rf_ck (fun h5 => ?_)
    refine rf_ck (fun h6 => ?_)
    refine y_aB hR hy ya59 yl59 (e_add (e_mul (e_n 60) rfl) rfl) h6 (fun h7 h8 => ?_)
    refine y_sB hR hy ya159 yl159 rfl rv6 rfl h8 (fun g12 m10 hR11 => ?_)
    refine rf_ck (fun h13 => ?_)
    exact rf_ok (by exact ⟨⟨(e_add rfl (e_n 1)), h13⟩, hR11⟩)
  · exact rf_ok (by exact hR)
noncomputable def NL_Y_listen_54 (v4 : Int) (v5 : Int) (v6 : Int) (m : YS) : Option (YS) :=
  it (fun s : Int × YS => nb_Y_listen_54 v4 v5 s.1 s.2) (v6, m)
theorem fL_Y_listen_54 {w y : Prop} {g : g_S} {n : NS} {m : YS} (hy : y) {xv4 : Int32} {v4 : Int} (ev4 : xv4 = Int32.ofInt v4) (rv4 : inR v4) {xv5 : Int32} {v5 : Int} (ev5 : xv5 = Int32.ofInt v5) (rv5 : inR v5) {xv6 : Int32} {v6 : Int} (ev6 : xv6 = Int32.ofInt v6) (rv6 : inR v6) (hR : RC w y g n m) : Rf (fun a b => RC w y a n b) (L_Y_listen_54 1838 xv4 xv5 xv6 g) (NL_Y_listen_54 v4 v5 v6 m) := by
  subst ev4
  subst ev5
  subst ev6
  unfold L_Y_listen_54 NL_Y_listen_54
  refine rf_it (I := (fun a b => RI a.1 b.1 ∧ RC w y a.2 n b.2)) (fun s t h => ?_) ⟨⟨rfl, rv6⟩, hR⟩
  exact fb_Y_listen_54 hy rfl rv4 rfl rv5 h.1.1 h.1.2 h.2
theorem NL_Y_listen_54_eq (v4 : Int) (v5 : Int) (v6 : Int) (m : YS) : NL_Y_listen_54 v4 v5 v6 m = itc (nb_Y_listen_54 v4 v5 v6 m) (fun s => NL_Y_listen_54 v4 v5 s.1 s.2) := it_eq2 (fun s : Int × YS => nb_Y_listen_54 v4 v5 s.1 s.2) (v6, m)
noncomputable def nk_Y_listen_31 (v4 : Int) (w0 : Int) (m : YS) : Option (YS) :=
  if w0 = (-1) then
    some m
  else
    ix w0 480 <|
    st (yw m 160 0 (m 60 w0)) fun m7 =>
    (NL_Y_listen_54 v4 w0 0 m7).bind <| fun m10 =>
    st (yw m10 161 0 v4) fun m14 =>
    ix v4 120 <|
    st (yw m14 162 0 (m14 55 v4)) fun m21 =>
    (N_Y_runScript m21).bind fun m25 =>
    some m25
theorem fk_Y_listen_31 {w y : Prop} {g : g_S} {n : NS} {m : YS} (hy : y) {xv4 : Int32} {v4 : Int} (ev4 : xv4 = Int32.ofInt v4) (rv4 : inR v4) {xw0 : Int32} {w0 : Int} (ew0 : xw0 = Int32.ofInt w0) (rw0 : inR w0) (hR : RC w y g n m) : Rf (fun a b => RC w y a n b) (k_Y_listen_31 1838 xv4 xw0 g) (nk_Y_listen_31 v4 w0 m) := by
  subst ev4
  subst ew0
  unfold k_Y_listen_31 nk_Y_listen_31
  refine rf_eq rfl (e_m 1) rw0 (show inR (-1) by decide) ?_ ?_
  · exact rf_ok (by exact hR)
  · refine y_Q hR hy ya60.1 (by decide) ?_
    refine y_aI hR hy ya60 yl60 rfl rw0 (fun h4 h5 => ?_)
    refine y_pI hR hy yk160 ⟨yt160, yz160⟩ rfl h5 (fun g9 m7 hR8 => ?_)
    refine rf_bind (fL_Y_listen_54 hy rfl rv4 rfl rw0 (e_n 0) (show inR 0 by decide) hR8) (fun a11 m10 h => ?_)
    have hR12 : RC w y a11 n m10 := h
    refine y_pI hR12 hy yk161 ⟨yt161, yz161⟩ rfl rv4 (fun g16 m14 hR15 => ?_)
    refine y_Q hR15 hy ya55.1 (by decide) ?_
    refine y_aI hR15 hy ya55 yl55 rfl rv4 (fun h18 h19 => ?_)
    refine y_pI hR15 hy yk162 ⟨yt162, yz162⟩ rfl h19 (fun g23 m21 hR22 => ?_)
    refine v_c (y_gt hR22 hy) ?_
    refine rf_bind (f_Y_runScript hy hR22) (fun g27 m25 hR26 => ?_)
    exact rf_ok (by exact hR26)
noncomputable def N_Y_listen (v1 : Int) (v2 : Int) (m : YS) : Option (YS) :=
  ix v1 120 <|
  ix (m 179 v1) 120 <|
  if (m 46 (m 179 v1)) = 17 then
    nk_Y_listen_31 (m 179 v1) (-1) m
  else
    (N_Y_attributeOf (m 179 v1) v2 m).bind fun z9 =>
    nk_Y_listen_31 (m 179 v1) z9 m
theorem f_Y_listen {w y : Prop} {g : g_S} {n : NS} {m : YS} (hy : y) {xv1 : Int32} {v1 : Int} (ev1 : xv1 = Int32.ofInt v1) (rv1 : inR v1) {xv2 : Int64} {v2 : Int} (ev2 : xv2 = Int64.ofInt v2) (rv2 : inL v2) (hR : RC w y g n m) : Rf (fun a b => RC w y a n b) (M_Y_listen 1838 xv1 xv2 g) (N_Y_listen v1 v2 m) := by
  subst ev1
  subst ev2
  unfold M_Y_listen N_Y_listen
  refine y_Q hR hy ya179.1 (by decide) ?_
  refine y_aI hR hy ya179 yl179 rfl rv1 (fun h2 h3 => ?_)
  refine y_Q hR hy ya46.1 (by decide) ?_
  refine y_aI hR hy ya46 yl46 rfl h3 (fun h5 h6 => ?_)
  refine rf_eq rfl (e_n 17) h6 (show inR 17 by decide) ?_ ?_
  · exact fk_Y_listen_31 hy rfl h3 (e_m 1) (show inR (-1) by decide) hR
  · refine v_c (y_gt hR hy) ?_
    refine rf_bind (f_Y_attributeOf hy rfl h3 rfl rv2 hR) (fun a11 z9 h => ?_)
    obtain ⟨rfl, r10⟩ := h
    exact fk_Y_listen_31 hy rfl h3 rfl r10 hR
noncomputable def nb_Y_settle_76 (v1 : Int) (m : YS) : Option ((Int × YS) ⊕ (YS)) :=
  if v1 < (m 181 0) then
    if (m 152 0) = 0 then
      if (m 154 0) = 0 then
        (N_Y_isThere v1 m).bind fun z8 =>
        if z8 = 0 then
          ck (v1 + 1) <|
          some (.inl (v1 + 1, m))
        else
          (N_Y_listen v1 135770575 m).bind fun m15 =>
          ck (v1 + 1) <|
          some (.inl (v1 + 1, m15))
      else
        some (.inr m)
    else
      some (.inr m)
  else
    some (.inr m)
theorem fb_Y_settle_76 {w y : Prop} {g : g_S} {n : NS} {m : YS} (hy : y) {xv1 : Int32} {v1 : Int} (ev1 : xv1 = Int32.ofInt v1) (rv1 : inR v1) (hR : RC w y g n m) : Rf (RS (fun a b => RI a.1 b.1 ∧ RC w y a.2 n b.2) (fun a b => RC w y a n b)) (b_Y_settle_76 1838 xv1 g) (nb_Y_settle_76 v1 m) := by
  subst ev1
  unfold b_Y_settle_76 nb_Y_settle_76
  refine y_I hR hy yk181 yt181 (fun h1 => ?_)
  refine rf_lt rfl rfl rv1 h1 ?_ ?_
  · refine y_Z hR hy yk152 yt152 yz152 (fun h3 => ?_)
    refine rf_eq rfl (e_n 0) (inZ.r h3) (show inR 0 by decide) ?_ ?_
    · refine y_Z hR hy yk154 yt154 yz154 (fun h5 => ?_)
      refine rf_eq rfl (e_n 0) (inZ.r h5) (show inR 0 by decide) ?_ ?_
      · refine v_c (y_gt hR hy) ?_
        refine rf_bind (f_Y_isThere hy rfl rv1 hR) (fun a10 z8 h => ?_)
        obtain ⟨rfl, r9⟩ := h
        refine rf_eq rfl (e_n 0) (inZ.r r9) (show inR 0 by decide) ?_ ?_
        · refine rf_ck (fun h12 => ?_)
          exact rf_ok (by exact ⟨⟨(e_add rfl (e_n 1)), h12⟩, hR⟩)
        · refine v_c (y_gt hR hy) ?_
          refine rf_bind (f_Y_listen hy rfl rv1 (f_n 135770575) (show inL 135770575 by decide) hR) (fun g17 m15 hR16 => ?_)
          refine rf_ck (fun h18 => ?_)
          exact rf_ok (by exact ⟨⟨(e_add rfl (e_n 1)), h18⟩, hR16⟩)
      · exact rf_ok (by exact hR)
    · exact rf_ok (by exact hR)
  · exact rf_ok (by exact hR)
noncomputable def NL_Y_settle_76 (v1 : Int) (m : YS) : Option (YS) :=
  it (fun s : Int × YS => nb_Y_settle_76 s.1 s.2) (v1, m)
theorem fL_Y_settle_76 {w y : Prop} {g : g_S} {n : NS} {m : YS} (hy : y) {xv1 : Int32} {v1 : Int} (ev1 : xv1 = Int32.ofInt v1) (rv1 : inR v1) (hR : RC w y g n m) : Rf (fun a b => RC w y a n b) (L_Y_settle_76 1838 xv1 g) (NL_Y_settle_76 v1 m) := by
  subst ev1
  unfold L_Y_settle_76 NL_Y_settle_76
  refine rf_it (I := (fun a b => RI a.1 b.1 ∧ RC w y a.2 n b.2)) (fun s t h => ?_) ⟨⟨rfl, rv1⟩, hR⟩
  exact fb_Y_settle_76 hy h.1.1 h.1.2 h.2
theorem NL_Y_settle_76_eq (v1 : Int) (m : YS) : NL_Y_settle_76 v1 m = itc (nb_Y_settle_76 v1 m) (fun s => NL_Y_settle_76 s.1 s.2) := it_eq2 (fun s : Int × YS => nb_Y_settle_76 s.1 s.2) (v1, m)
noncomputable def nk_Y_settle_64 (v1 : Int) (m : YS) : Option ((Int × YS) ⊕ (YS)) :=
  (N_Y_after v1 0 m).bind fun z2 =>
  some (.inl (z2, m))
theorem fk_Y_settle_64 {w y : Prop} {g : g_S} {n : NS} {m : YS} (hy : y) {xv1 : Int32} {v1 : Int} (ev1 : xv1 = Int32.ofInt v1) (rv1 : inR v1) (hR : RC w y g n m) : Rf (RS (fun a b => RI a.1 b.1 ∧ RC w y a.2 n b.2) (fun a b => RC w y a n b)) (k_Y_settle_64 1838 xv1 g) (nk_Y_settle_64 v1 m) := by
  subst ev1
  unfold k_Y_settle_64 nk_Y_settle_64
  refine v_c (y_gt hR hy) ?_
  refine rf_bind (f_Y_after hy rfl rv1 (e_n 0) (show inR 0 by decide) hR) (fun a4 z2 h => ?_)
  obtain ⟨rfl, r3⟩ := h
  exact rf_ok (by exact ⟨⟨rfl, r3⟩, hR⟩)
noncomputable def nb_Y_settle_24 (v1 : Int) (m : YS) : Option ((Int × YS) ⊕ (YS)) :=
  if v1 = (-1) then
    some (.inr m)
  else
    if (m 154 0) = 0 then
      ix v1 120 <|
      if (m 46 v1) = 17 then
        nk_Y_settle_64 v1 m
      else
        (N_Y_attributeOf v1 135770575 m).bind fun z10 =>
        if z10 = (-1) then
          nk_Y_settle_64 v1 m
        else
          (N_Y_onWay v1 m).bind fun m15 =>
          nk_Y_settle_64 v1 m15
    else
      some (.inr m)
theorem fb_Y_settle_24 {w y : Prop} {g : g_S} {n : NS} {m : YS} (hy : y) {xv1 : Int32} {v1 : Int} (ev1 : xv1 = Int32.ofInt v1) (rv1 : inR v1) (hR : RC w y g n m) : Rf (RS (fun a b => RI a.1 b.1 ∧ RC w y a.2 n b.2) (fun a b => RC w y a n b)) (b_Y_settle_24 1838 xv1 g) (nb_Y_settle_24 v1 m) := by
  subst ev1
  unfold b_Y_settle_24 nb_Y_settle_24
  refine rf_eq rfl (e_m 1) rv1 (show inR (-1) by decide) ?_ ?_
  · exact rf_ok (by exact hR)
  · refine y_Z hR hy yk154 yt154 yz154 (fun h2 => ?_)
    refine rf_eq rfl (e_n 0) (inZ.r h2) (show inR 0 by decide) ?_ ?_
    · refine y_Q hR hy ya46.1 (by decide) ?_
      refine y_aI hR hy ya46 yl46 rfl rv1 (fun h5 h6 => ?_)
      refine rf_eq rfl (e_n 17) h6 (show inR 17 by decide) ?_ ?_
      · exact fk_Y_settle_64 hy rfl rv1 hR
      · refine v_c (y_gt hR hy) ?_
        refine rf_bind (f_Y_attributeOf hy rfl rv1 (f_n 135770575) (show inL 135770575 by decide) hR) (fun a12 z10 h => ?_)
        obtain ⟨rfl, r11⟩ := h
        refine rf_eq rfl (e_m 1) r11 (show inR (-1) by decide) ?_ ?_
        · exact fk_Y_settle_64 hy rfl rv1 hR
        · refine v_c (y_gt hR hy) ?_
          refine rf_bind (f_Y_onWay hy rfl rv1 hR) (fun g17 m15 hR16 => ?_)
          exact fk_Y_settle_64 hy rfl rv1 hR16
    · exact rf_ok (by exact hR)
noncomputable def NL_Y_settle_24 (v1 : Int) (m : YS) : Option (YS) :=
  it (fun s : Int × YS => nb_Y_settle_24 s.1 s.2) (v1, m)
theorem fL_Y_settle_24 {w y : Prop} {g : g_S} {n : NS} {m : YS} (hy : y) {xv1 : Int32} {v1 : Int} (ev1 : xv1 = Int32.ofInt v1) (rv1 : inR v1) (hR : RC w y g n m) : Rf (fun a b => RC w y a n b) (L_Y_settle_24 1838 xv1 g) (NL_Y_settle_24 v1 m) := by
  subst ev1
  unfold L_Y_settle_24 NL_Y_settle_24
  refine rf_it (I := (fun a b => RI a.1 b.1 ∧ RC w y a.2 n b.2)) (fun s t h => ?_) ⟨⟨rfl, rv1⟩, hR⟩
  exact fb_Y_settle_24 hy h.1.1 h.1.2 h.2
theorem NL_Y_settle_24_eq (v1 : Int) (m : YS) : NL_Y_settle_24 v1 m = itc (nb_Y_settle_24 v1 m) (fun s => NL_Y_settle_24 s.1 s.2) := it_eq2 (fun s : Int × YS => nb_Y_settle_24 s.1 s.2) (v1, m)
noncomputable def nk_Y_settle_74 (m : YS) : Option ((YS) ⊕ (YS)) :=
  (NL_Y_settle_76 0 m).bind <| fun m1 =>
  some (.inl m1)
theorem fk_Y_settle_74 {w y : Prop} {g : g_S} {n : NS} {m : YS} (hy : y) (hR : RC w y g n m) : Rf (RS (fun a b => RC w y a n b) (fun a b => RC w y a n b)) (k_Y_settle_74 1838 g) (nk_Y_settle_74 m) := by
  unfold k_Y_settle_74 nk_Y_settle_74
  refine rf_bind (fL_Y_settle_76 hy (e_n 0) (show inR 0 by decide) hR) (fun a2 m1 h => ?_)
  have hR3 : RC w y a2 n m1 := h
  exact rf_ok (by exact hR3)
noncomputable def nb_Y_settle_0 (m : YS) : Option ((YS) ⊕ (YS)) :=
  if (m 153 0) = 0 then
    some (.inr m)
  else
    st (yw m 153 0 0) fun m4 =>
    st (yw m4 152 0 0) fun m8 =>
    st (yw m8 181 0 0) fun m12 =>
    (NL_Y_settle_24 0 m12).bind <| fun m15 =>
    nk_Y_settle_74 m15
theorem fb_Y_settle_0 {w y : Prop} {g : g_S} {n : NS} {m : YS} (hy : y) (hR : RC w y g n m) : Rf (RS (fun a b => RC w y a n b) (fun a b => RC w y a n b)) (b_Y_settle_0 1838 g) (nb_Y_settle_0 m) := by
  unfold b_Y_settle_0 nb_Y_settle_0
  refine y_Z hR hy yk153 yt153 yz153 (fun h1 => ?_)
  refine rf_eq rfl (e_n 0) (inZ.r h1) (show inR 0 by decide) ?_ ?_
  · exact rf_ok (by exact hR)
  · refine y_pZ hR hy yk153 yt153 (e_n 0) (.inl rfl) (fun g6 m4 hR5 => ?_)
    refine y_pZ hR5 hy yk152 yt152 (e_n 0) (.inl rfl) (fun g10 m8 hR9 => ?_)
    refine y_pI hR9 hy yk181 ⟨yt181, yz181⟩ (e_n 0) (show inR 0 by decide) (fun g14 m12 hR13 => ?_)
    refine rf_bind (fL_Y_settle_24 hy (e_n 0) (show inR 0 by decide) hR13) (fun a16 m15 h => ?_)
    have hR17 : RC w y a16 n m15 := h
    exact fk_Y_settle_74 hy hR17
noncomputable def NL_Y_settle_0 (m : YS) : Option (YS) :=
  it (fun s : YS => nb_Y_settle_0 s) (m)
theorem fL_Y_settle_0 {w y : Prop} {g : g_S} {n : NS} {m : YS} (hy : y) (hR : RC w y g n m) : Rf (fun a b => RC w y a n b) (L_Y_settle_0 1838 g) (NL_Y_settle_0 m) := by
  unfold L_Y_settle_0 NL_Y_settle_0
  refine rf_it (I := (fun a b => RC w y a n b)) (fun s t h => ?_) hR
  exact fb_Y_settle_0 hy h
theorem NL_Y_settle_0_eq (m : YS) : NL_Y_settle_0 m = itc (nb_Y_settle_0 m) (fun s => NL_Y_settle_0 s) := it_eq2 (fun s : YS => nb_Y_settle_0 s) (m)
noncomputable def N_Y_settle (m : YS) : Option (YS) :=
  (NL_Y_settle_0 m).bind <| fun m1 =>
  st (yw m1 152 0 0) fun m5 =>
  some m5
theorem f_Y_settle {w y : Prop} {g : g_S} {n : NS} {m : YS} (hy : y) (hR : RC w y g n m) : Rf (fun a b => RC w y a n b) (M_Y_settle 1838 g) (N_Y_settle m) := by
  unfold M_Y_settle N_Y_settle
  refine rf_bind (fL_Y_settle_0 hy hR) (fun a2 m1 h => ?_)
  have hR3 : RC w y a2 n m1 := h
  refine y_pZ hR3 hy yk152 yt152 (e_n 0) (.inl rfl) (fun g7 m5 hR6 => ?_)
  exact rf_ok (by exact hR6)
noncomputable def N_Y_visit (m : YS) : Option (Int × YS) :=
  (N_Y_take m).bind <| u2 fun z2 m5 =>
  if z2 < 0 then
    (N_Y_resolve0 m5).bind <| u2 fun z10 m13 =>
    if z10 = 0 then
      some ((-1), m13)
    else
      (N_Y_begin m13).bind fun m19 =>
      (N_Y_visitResult m19).bind fun m23 =>
      (N_Y_settle m23).bind fun m27 =>
      some (1, m27)
  else
    (N_Y_wrong z2 m5).bind fun z32 =>
    some (z32, m5)
theorem f_Y_visit {w y : Prop} {g : g_S} {n : NS} {m : YS} (hy : y) (hR : RC w y g n m) : Rf (fun a b => RI a.1 b.1 ∧ RC w y a.2 n b.2) (M_Y_visit 1838 g) (N_Y_visit m) := by
  unfold M_Y_visit N_Y_visit
  refine v_c2 (y_gt hR hy) ?_
  refine rf_c2 (f_Y_take hy hR) (fun a4 g7 b h => ?_)
  obtain ⟨z2, m5⟩ := b
  refine rf_v2 ?_
  obtain ⟨rfl, r3⟩ := (show RI a4 z2 from h.1)
  have hR6 : RC w y g7 n m5 := h.2
  refine rf_lt rfl (e_n 0) r3 (show inR 0 by decide) ?_ ?_
  · refine v_c2 (y_gt hR6 hy) ?_
    refine rf_c2 (f_Y_resolve0 hy hR6) (fun a12 g15 b h => ?_)
    obtain ⟨z10, m13⟩ := b
    refine rf_v2 ?_
    obtain ⟨rfl, r11⟩ := (show RZ a12 z10 from h.1)
    have hR14 : RC w y g15 n m13 := h.2
    refine rf_eq rfl (e_n 0) (inZ.r r11) (show inR 0 by decide) ?_ ?_
    · exact rf_ok (by exact ⟨⟨(e_m 1), (show inR (-1) by decide)⟩, hR14⟩)
    · refine v_c (y_gt hR14 hy) ?_
      refine rf_bind (f_Y_begin hy hR14) (fun g21 m19 hR20 => ?_)
      refine v_c (y_gt hR20 hy) ?_
      refine rf_bind (f_Y_visitResult hy hR20) (fun g25 m23 hR24 => ?_)
      refine v_c (y_gt hR24 hy) ?_
      refine rf_bind (f_Y_settle hy hR24) (fun g29 m27 hR28 => ?_)
      exact rf_ok (by exact ⟨⟨(e_n 1), (show inR 1 by decide)⟩, hR28⟩)
  · refine rf_bind (f_Y_wrong hy rfl r3 hR6) (fun a34 z32 h => ?_)
    obtain ⟨rfl, r33⟩ := h
    exact rf_ok (by exact ⟨⟨rfl, r33⟩, hR6⟩)
noncomputable def nb_Y_page_28 (v2 : Int) (m : YS) : Option ((Int × YS) ⊕ (YS)) :=
  if v2 < (m 3 0) then
    ix v2 2000 <|
    ix v2 2000 <|
    st (yw m 75 v2 (m 2 v2)) fun m8 =>
    ck (v2 + 1) <|
    some (.inl (v2 + 1, m8))
  else
    some (.inr m)
theorem fb_Y_page_28 {w y : Prop} {g : g_S} {n : NS} {m : YS} (hy : y) {xv2 : Int32} {v2 : Int} (ev2 : xv2 = Int32.ofInt v2) (rv2 : inR v2) (hR : RC w y g n m) : Rf (RS (fun a b => RI a.1 b.1 ∧ RC w y a.2 n b.2) (fun a b => RC w y a n b)) (b_Y_page_28 1838 xv2 g) (nb_Y_page_28 v2 m) := by
  subst ev2
  unfold b_Y_page_28 nb_Y_page_28
  refine y_I hR hy yk3 yt3 (fun h1 => ?_)
  refine rf_lt rfl rfl rv2 h1 ?_ ?_
  · refine y_Q hR hy ya75.1 (by decide) ?_
    refine y_Q hR hy ya2.1 (by decide) ?_
    refine y_aB hR hy ya2 yl2 rfl rv2 (fun h5 h6 => ?_)
    refine y_sB hR hy ya75 yl75 rfl rv2 rfl h6 (fun g10 m8 hR9 => ?_)
    refine rf_ck (fun h11 => ?_)
    exact rf_ok (by exact ⟨⟨(e_add rfl (e_n 1)), h11⟩, hR9⟩)
  · exact rf_ok (by exact hR)
noncomputable def NL_Y_page_28 (v2 : Int) (m : YS) : Option (YS) :=
  it (fun s : Int × YS => nb_Y_page_28 s.1 s.2) (v2, m)
theorem fL_Y_page_28 {w y : Prop} {g : g_S} {n : NS} {m : YS} (hy : y) {xv2 : Int32} {v2 : Int} (ev2 : xv2 = Int32.ofInt v2) (rv2 : inR v2) (hR : RC w y g n m) : Rf (fun a b => RC w y a n b) (L_Y_page_28 1838 xv2 g) (NL_Y_page_28 v2 m) := by
  subst ev2
  unfold L_Y_page_28 NL_Y_page_28
  refine rf_it (I := (fun a b => RI a.1 b.1 ∧ RC w y a.2 n b.2)) (fun s t h => ?_) ⟨⟨rfl, rv2⟩, hR⟩
  exact fb_Y_page_28 hy h.1.1 h.1.2 h.2
theorem NL_Y_page_28_eq (v2 : Int) (m : YS) : NL_Y_page_28 v2 m = itc (nb_Y_page_28 v2 m) (fun s => NL_Y_page_28 s.1 s.2) := it_eq2 (fun s : Int × YS => nb_Y_page_28 s.1 s.2) (v2, m)
noncomputable def N_Y_page (m : YS) : Option (Int × YS) :=
  (N_Y_take m).bind <| u2 fun z2 m5 =>
  if z2 < 0 then
    (N_Y_begin m5).bind fun m10 =>
    st (yw m10 76 0 (m10 3 0)) fun m15 =>
    (NL_Y_page_28 0 m15).bind <| fun m18 =>
    (N_Y_newPage m18).bind fun m22 =>
    (N_Y_settle m22).bind fun m26 =>
    some ((m26 68 0), m26)
  else
    (N_Y_wrong z2 m5).bind fun z32 =>
    some (z32, m5)
theorem f_Y_page {w y : Prop} {g : g_S} {n : NS} {m : YS} (hy : y) (hR : RC w y g n m) : Rf (fun a b => RI a.1 b.1 ∧ RC w y a.2 n b.2) (M_Y_page 1838 g) (N_Y_page m) := by
  unfold M_Y_page N_Y_page
  refine v_c2 (y_gt hR hy) ?_
  refine rf_c2 (f_Y_take hy hR) (fun a4 g7 b h => ?_)
  obtain ⟨z2, m5⟩ := b
  refine rf_v2 ?_
  obtain ⟨rfl, r3⟩ := (show RI a4 z2 from h.1)
  have hR6 : RC w y g7 n m5 := h.2
  refine rf_lt rfl (e_n 0) r3 (show inR 0 by decide) ?_ ?_
  · refine v_c (y_gt hR6 hy) ?_
    refine rf_bind (f_Y_begin hy hR6) (fun g12 m10 hR11 => ?_)
    refine y_I hR11 hy yk3 yt3 (fun h13 => ?_)
    refine y_pI hR11 hy yk76 ⟨yt76, yz76⟩ rfl h13 (fun g17 m15 hR16 => ?_)
    refine rf_bind (fL_Y_page_28 hy (e_n 0) (show inR 0 by decide) hR16) (fun a19 m18 h => ?_)
    have hR20 : RC w y a19 n m18 := h
    refine v_c (y_gt hR20 hy) ?_
    refine rf_bind (f_Y_newPage hy hR20) (fun g24 m22 hR23 => ?_)
    refine v_c (y_gt hR23 hy) ?_
    refine rf_bind (f_Y_settle hy hR23) (fun g28 m26 hR27 => ?_)
    refine y_I hR27 hy yk68 yt68 (fun h29 => ?_)
    exact rf_ok (by exact ⟨⟨rfl, h29⟩, hR27⟩)
  · refine rf_bind (f_Y_wrong hy rfl r3 hR6) (fun a34 z32 h => ?_)
    obtain ⟨rfl, r33⟩ := h
    exact rf_ok (by exact ⟨⟨rfl, r33⟩, hR6⟩)
noncomputable def N_Y_history (v1 : Int) (m : YS) : Option (Int × YS) :=
  ckL ((m 149 0) + v1) <|
  if ((m 149 0) + v1) < 0 then
    some ((-1), m)
  else
    if ((m 149 0) + v1) < (m 148 0) then
      (N_Y_begin m).bind fun m8 =>
      ck ((m 149 0) + v1) <|
      st (yw m8 149 0 ((m 149 0) + v1)) fun m13 =>
      ck (26 + (m13 149 0)) <|
      (N_Y_copyRow 0 (26 + (m13 149 0)) m13).bind fun m19 =>
      (N_Y_goTo m19).bind fun m23 =>
      (N_Y_settle m23).bind fun m27 =>
      some ((m27 149 0), m27)
    else
      some ((-1), m)
theorem f_Y_history {w y : Prop} {g : g_S} {n : NS} {m : YS} (hy : y) {xv1 : Int32} {v1 : Int} (ev1 : xv1 = Int32.ofInt v1) (rv1 : inR v1) (hR : RC w y g n m) : Rf (fun a b => RI a.1 b.1 ∧ RC w y a.2 n b.2) (M_Y_history 1838 xv1 g) (N_Y_history v1 m) := by
  subst ev1
  unfold M_Y_history N_Y_history
  refine y_I hR hy yk149 yt149 (fun h1 => ?_)
  refine rf_ckL (fun h2 => ?_)
  refine rf_llt (f_add (f_i2l rfl h1) (f_i2l rfl rv1)) (f_n 0) h2 (show inL 0 by decide) ?_ ?_
  · exact rf_ok (by exact ⟨⟨(e_m 1), (show inR (-1) by decide)⟩, hR⟩)
  · refine y_I hR hy yk148 yt148 (fun h5 => ?_)
    refine rf_llt (f_add (f_i2l rfl h1) (f_i2l rfl rv1)) (f_i2l rfl h5) h2 (inR.l h5) ?_ ?_
    · refine v_c (y_gt hR hy) ?_
      refine rf_bind (f_Y_begin hy hR) (fun g10 m8 hR9 => ?_)
      refine rf_ck (fun h11 => ?_)
      refine y_pI hR9 hy yk149 ⟨yt149, yz149⟩ (e_l2i (f_add (f_i2l rfl h1) (f_i2l rfl rv1))) h11 (fun g15 m13 hR14 => ?_)
      refine y_I hR14 hy yk149 yt149 (fun h16 => ?_)
      refine rf_ck (fun h17 => ?_)
      refine v_c (y_gt hR14 hy) ?_
      refine rf_bind (f_Y_copyRow hy (e_n 0) (show inR 0 by decide) (e_add (e_n 26) rfl) h17 hR14) (fun g21 m19 hR20 => ?_)
      refine v_c (y_gt hR20 hy) ?_
      refine rf_bind (f_Y_goTo hy hR20) (fun g25 m23 hR24 => ?_)
      refine v_c (y_gt hR24 hy) ?_
      refine rf_bind (f_Y_settle hy hR24) (fun g29 m27 hR28 => ?_)
      refine y_I hR28 hy yk149 yt149 (fun h30 => ?_)
      exact rf_ok (by exact ⟨⟨rfl, h30⟩, hR28⟩)
    · exact rf_ok (by exact ⟨⟨(e_m 1), (show inR (-1) by decide)⟩, hR⟩)
noncomputable def nk_Y_write_61 (m : YS) : Option (Int × YS) :=
  some ((m 5 0), m)
theorem fk_Y_write_61 {w y : Prop} {g : g_S} {n : NS} {m : YS} (hy : y) (hR : RC w y g n m) : Rf (fun a b => RI a.1 b.1 ∧ RC w y a.2 n b.2) (k_Y_write_61 1838 g) (nk_Y_write_61 m) := by
  unfold k_Y_write_61 nk_Y_write_61
  refine y_I hR hy yk5 yt5 (fun h1 => ?_)
  exact rf_ok (by exact ⟨⟨rfl, h1⟩, hR⟩)
noncomputable def nk_Y_write_58 (w0 : Int) (m : YS) : Option (Int × YS) :=
  (N_Y_sayRow w0 m).bind fun m2 =>
  nk_Y_write_61 m2
theorem fk_Y_write_58 {w y : Prop} {g : g_S} {n : NS} {m : YS} (hy : y) {xw0 : Int32} {w0 : Int} (ew0 : xw0 = Int32.ofInt w0) (rw0 : inR w0) (hR : RC w y g n m) : Rf (fun a b => RI a.1 b.1 ∧ RC w y a.2 n b.2) (k_Y_write_58 1838 xw0 1838 g) (nk_Y_write_58 w0 m) := by
  subst ew0
  unfold k_Y_write_58 nk_Y_write_58
  refine v_c (y_gt hR hy) ?_
  refine rf_bind (f_Y_sayRow hy rfl rw0 hR) (fun g4 m2 hR3 => ?_)
  exact fk_Y_write_61 hy hR3
noncomputable def nk_Y_write_48 (v1 : Int) (m : YS) : Option (Int × YS) :=
  if v1 = 0 then
    nk_Y_write_58 1 m
  else
    nk_Y_write_58 2 m
theorem fk_Y_write_48 {w y : Prop} {g : g_S} {n : NS} {m : YS} (hy : y) {xv1 : Int32} {v1 : Int} (ev1 : xv1 = Int32.ofInt v1) (rv1 : inR v1) (hR : RC w y g n m) : Rf (fun a b => RI a.1 b.1 ∧ RC w y a.2 n b.2) (k_Y_write_48 1838 xv1 g) (nk_Y_write_48 v1 m) := by
  subst ev1
  unfold k_Y_write_48 nk_Y_write_48
  refine rf_eq rfl (e_n 0) rv1 (show inR 0 by decide) ?_ ?_
  · exact fk_Y_write_58 hy (e_n 1) (show inR 1 by decide) hR
  · exact fk_Y_write_58 hy (e_n 2) (show inR 2 by decide) hR
noncomputable def N_Y_write (v1 : Int) (m : YS) : Option (Int × YS) :=
  if v1 < 0 then
    some ((-1), m)
  else
    if 2 < v1 then
      some ((-1), m)
    else
      st (yw m 5 0 0) fun m6 =>
      if v1 = 2 then
        (N_Y_sayAll 36 0 (m6 37 0) m6).bind fun m13 =>
        nk_Y_write_61 m13
      else
        if v1 = 0 then
          nk_Y_write_48 v1 m6
        else
          if 0 < (m6 35 0) then
            nk_Y_write_48 v1 m6
          else
            nk_Y_write_61 m6
theorem f_Y_write {w y : Prop} {g : g_S} {n : NS} {m : YS} (hy : y) {xv1 : Int32} {v1 : Int} (ev1 : xv1 = Int32.ofInt v1) (rv1 : inR v1) (hR : RC w y g n m) : Rf (fun a b => RI a.1 b.1 ∧ RC w y a.2 n b.2) (M_Y_write 1838 xv1 g) (N_Y_write v1 m) := by
  subst ev1
  unfold M_Y_write N_Y_write
  refine rf_lt rfl (e_n 0) rv1 (show inR 0 by decide) ?_ ?_
  · exact rf_ok (by exact ⟨⟨(e_m 1), (show inR (-1) by decide)⟩, hR⟩)
  · refine rf_lt (e_n 2) rfl (show inR 2 by decide) rv1 ?_ ?_
    · exact rf_ok (by exact ⟨⟨(e_m 1), (show inR (-1) by decide)⟩, hR⟩)
    · refine y_pI hR hy yk5 ⟨yt5, yz5⟩ (e_n 0) (show inR 0 by decide) (fun g8 m6 hR7 => ?_)
      refine rf_eq rfl (e_n 2) rv1 (show inR 2 by decide) ?_ ?_
      · refine y_Q hR7 hy ya36.1 (by decide) ?_
        refine y_I hR7 hy yk37 yt37 (fun h11 => ?_)
        refine v_c (y_gt hR7 hy) ?_
        refine rf_bind (f_Y_sayAll hy rfl ya36 (e_n 0) (show inR 0 by decide) rfl h11 hR7) (fun g15 m13 hR14 => ?_)
        exact fk_Y_write_61 hy hR14
      · refine rf_eq rfl (e_n 0) rv1 (show inR 0 by decide) ?_ ?_
        · exact fk_Y_write_48 hy rfl rv1 hR7
        · refine y_I hR7 hy yk35 yt35 (fun h17 => ?_)
          refine rf_lt (e_n 0) rfl (show inR 0 by decide) h17 ?_ ?_
          · exact fk_Y_write_48 hy rfl rv1 hR7
          · exact fk_Y_write_61 hy hR7
noncomputable def nb_Y_doTask_12 (v1 : Int) (v2 : Int) (m : YS) : Option ((Int × YS) ⊕ (YS)) :=
  if v2 < (m 160 0) then
    ck (60 * v1) <|
    ck ((60 * v1) + v2) <|
    ix ((60 * v1) + v2) 1200 <|
    ix v2 2000 <|
    st (yw m 159 v2 (m 173 ((60 * v1) + v2))) fun m10 =>
    ck (v2 + 1) <|
    some (.inl (v2 + 1, m10))
  else
    some (.inr m)
theorem fb_Y_doTask_12 {w y : Prop} {g : g_S} {n : NS} {m : YS} (hy : y) {xv1 : Int32} {v1 : Int} (ev1 : xv1 = Int32.ofInt v1) (rv1 : inR v1) {xv2 : Int32} {v2 : Int} (ev2 : xv2 = Int32.ofInt v2) (rv2 : inR v2) (hR : RC w y g n m) : Rf (RS (fun a b => RI a.1 b.1 ∧ RC w y a.2 n b.2) (fun a b => RC w y a n b)) (b_Y_doTask_12 1838 xv1 xv2 g) (nb_Y_doTask_12 v1 v2 m) := by
  subst ev1
  subst ev2
  unfold b_Y_doTask_12 nb_Y_doTask_12
  refine y_I hR hy yk160 yt160 (fun h1 => ?_)
  refine rf_lt rfl rfl rv2 h1 ?_ ?_
  · refine y_Q hR hy ya159.1 (by decide) ?_
    refine y_Q hR hy ya173.1 (by decide) ?_
    refine rf_ck (fun h5 => ?_)
    refine rf_ck (fun h6 => ?_)
    refine y_aB hR hy ya173 yl173 (e_add (e_mul (e_n 60) rfl) rfl) h6 (fun h7 h8 => ?_)
    refine y_sB hR hy ya159 yl159 rfl rv2 rfl h8 (fun g12 m10 hR11 => ?_)
    refine rf_ck (fun h13 => ?_)
    exact rf_ok (by exact ⟨⟨(e_add rfl (e_n 1)), h13⟩, hR11⟩)
  · exact rf_ok (by exact hR)
noncomputable def NL_Y_doTask_12 (v1 : Int) (v2 : Int) (m : YS) : Option (YS) :=
  it (fun s : Int × YS => nb_Y_doTask_12 v1 s.1 s.2) (v2, m)
theorem fL_Y_doTask_12 {w y : Prop} {g : g_S} {n : NS} {m : YS} (hy : y) {xv1 : Int32} {v1 : Int} (ev1 : xv1 = Int32.ofInt v1) (rv1 : inR v1) {xv2 : Int32} {v2 : Int} (ev2 : xv2 = Int32.ofInt v2) (rv2 : inR v2) (hR : RC w y g n m) : Rf (fun a b => RC w y a n b) (L_Y_doTask_12 1838 xv1 xv2 g) (NL_Y_doTask_12 v1 v2 m) := by
  subst ev1
  subst ev2
  unfold L_Y_doTask_12 NL_Y_doTask_12
  refine rf_it (I := (fun a b => RI a.1 b.1 ∧ RC w y a.2 n b.2)) (fun s t h => ?_) ⟨⟨rfl, rv2⟩, hR⟩
  exact fb_Y_doTask_12 hy rfl rv1 h.1.1 h.1.2 h.2
theorem NL_Y_doTask_12_eq (v1 : Int) (v2 : Int) (m : YS) : NL_Y_doTask_12 v1 v2 m = itc (nb_Y_doTask_12 v1 v2 m) (fun s => NL_Y_doTask_12 v1 s.1 s.2) := it_eq2 (fun s : Int × YS => nb_Y_doTask_12 v1 s.1 s.2) (v2, m)
noncomputable def nb_Y_doTask_155 (v2 : Int) (v3 : Int) (m : YS) : Option ((Int × YS) ⊕ (YS)) :=
  if v3 < 60 then
    ck (60 * v2) <|
    ck ((60 * v2) + v3) <|
    ck (v2 + 1) <|
    ck (60 * (v2 + 1)) <|
    ck ((60 * (v2 + 1)) + v3) <|
    ix ((60 * (v2 + 1)) + v3) 1200 <|
    ix ((60 * v2) + v3) 1200 <|
    st (yw m 173 ((60 * v2) + v3) (m 173 ((60 * (v2 + 1)) + v3))) fun m12 =>
    ck (v3 + 1) <|
    some (.inl (v3 + 1, m12))
  else
    some (.inr m)
theorem fb_Y_doTask_155 {w y : Prop} {g : g_S} {n : NS} {m : YS} (hy : y) {xv2 : Int32} {v2 : Int} (ev2 : xv2 = Int32.ofInt v2) (rv2 : inR v2) {xv3 : Int32} {v3 : Int} (ev3 : xv3 = Int32.ofInt v3) (rv3 : inR v3) (hR : RC w y g n m) : Rf (RS (fun a b => RI a.1 b.1 ∧ RC w y a.2 n b.2) (fun a b => RC w y a n b)) (b_Y_doTask_155 1838 xv2 xv3 g) (nb_Y_doTask_155 v2 v3 m) := by
  subst ev2
  subst ev3
  unfold b_Y_doTask_155 nb_Y_doTask_155
  refine rf_lt rfl (e_n 60) rv3 (show inR 60 by decide) ?_ ?_
  · refine y_Q hR hy ya173.1 (by decide) ?_
    refine rf_ck (fun h3 => ?_)
    refine rf_ck (fun h4 => ?_)
    refine y_Q hR hy ya173.1 (by decide) ?_
    refine rf_ck (fun h6 => ?_)
    refine rf_ck (fun h7 => ?_)
    refine rf_ck (fun h8 => ?_)
    refine y_aB hR hy ya173 yl173 (e_add (e_mul (e_n 60) (e_add rfl (e_n 1))) rfl) h8 (fun h9 h10 => ?_)
    refine y_sB hR hy ya173 yl173 (e_add (e_mul (e_n 60) rfl) rfl) h4 rfl h10 (fun g14 m12 hR13 => ?_)
    refine rf_ck (fun h15 => ?_)
    exact rf_ok (by exact ⟨⟨(e_add rfl (e_n 1)), h15⟩, hR13⟩)
  · exact rf_ok (by exact hR)
noncomputable def NL_Y_doTask_155 (v2 : Int) (v3 : Int) (m : YS) : Option (YS) :=
  it (fun s : Int × YS => nb_Y_doTask_155 v2 s.1 s.2) (v3, m)
theorem fL_Y_doTask_155 {w y : Prop} {g : g_S} {n : NS} {m : YS} (hy : y) {xv2 : Int32} {v2 : Int} (ev2 : xv2 = Int32.ofInt v2) (rv2 : inR v2) {xv3 : Int32} {v3 : Int} (ev3 : xv3 = Int32.ofInt v3) (rv3 : inR v3) (hR : RC w y g n m) : Rf (fun a b => RC w y a n b) (L_Y_doTask_155 1838 xv2 xv3 g) (NL_Y_doTask_155 v2 v3 m) := by
  subst ev2
  subst ev3
  unfold L_Y_doTask_155 NL_Y_doTask_155
  refine rf_it (I := (fun a b => RI a.1 b.1 ∧ RC w y a.2 n b.2)) (fun s t h => ?_) ⟨⟨rfl, rv3⟩, hR⟩
  exact fb_Y_doTask_155 hy rfl rv2 h.1.1 h.1.2 h.2
theorem NL_Y_doTask_155_eq (v2 : Int) (v3 : Int) (m : YS) : NL_Y_doTask_155 v2 v3 m = itc (nb_Y_doTask_155 v2 v3 m) (fun s => NL_Y_doTask_155 v2 s.1 s.2) := it_eq2 (fun s : Int × YS => nb_Y_doTask_155 v2 s.1 s.2) (v3, m)
noncomputable def nb_Y_doTask_75 (v2 : Int) (m : YS) : Option ((Int × YS) ⊕ (YS)) :=
  if v2 < (m 166 0) then
    ck (v2 + 1) <|
    ix (v2 + 1) 20 <|
    ix v2 20 <|
    st (yw m 168 v2 (m 168 (v2 + 1))) fun m9 =>
    ck (v2 + 1) <|
    ix (v2 + 1) 20 <|
    ix v2 20 <|
    st (yw m9 169 v2 (m9 169 (v2 + 1))) fun m18 =>
    ck (v2 + 1) <|
    ix (v2 + 1) 20 <|
    ix v2 20 <|
    st (yw m18 170 v2 (m18 170 (v2 + 1))) fun m27 =>
    ck (v2 + 1) <|
    ix (v2 + 1) 20 <|
    ix v2 20 <|
    st (yw m27 171 v2 (m27 171 (v2 + 1))) fun m36 =>
    ck (v2 + 1) <|
    ix (v2 + 1) 20 <|
    ix v2 20 <|
    st (yw m36 172 v2 (m36 172 (v2 + 1))) fun m45 =>
    (NL_Y_doTask_155 v2 0 m45).bind <| fun m48 =>
    ck (v2 + 1) <|
    some (.inl (v2 + 1, m48))
  else
    some (.inr m)
theorem fb_Y_doTask_75 {w y : Prop} {g : g_S} {n : NS} {m : YS} (hy : y) {xv2 : Int32} {v2 : Int} (ev2 : xv2 = Int32.ofInt v2) (rv2 : inR v2) (hR : RC w y g n m) : Rf (RS (fun a b => RI a.1 b.1 ∧ RC w y a.2 n b.2) (fun a b => RC w y a n b)) (b_Y_doTask_75 1838 xv2 g) (nb_Y_doTask_75 v2 m) := by
  subst ev2
  unfold b_Y_doTask_75 nb_Y_doTask_75
  refine y_I hR hy yk166 yt166 (fun h1 => ?_)
  refine rf_lt rfl rfl rv2 h1 ?_ ?_
  · refine y_Q hR hy ya168.1 (by decide) ?_
    refine y_Q hR hy ya168.1 (by decide) ?_
    refine rf_ck (fun h5 => ?_)
    refine y_aI hR hy ya168 yl168 (e_add rfl (e_n 1)) h5 (fun h6 h7 => ?_)
    refine y_sI hR hy ya168 yl168 rfl rv2 rfl h7 (fun g11 m9 hR10 => ?_)
    refine y_Q hR10 hy ya169.1 (by decide) ?_
    refine y_Q hR10 hy ya169.1 (by decide) ?_
    refine rf_ck (fun h14 => ?_)
    refine y_aI hR10 hy ya169 yl169 (e_add rfl (e_n 1)) h14 (fun h15 h16 => ?_)
    refine y_sI hR10 hy ya169 yl169 rfl rv2 rfl h16 (fun g20 m18 hR19 => ?_)
    refine y_Q hR19 hy ya170.1 (by decide) ?_
    refine y_Q hR19 hy ya170.1 (by decide) ?_
    refine rf_ck (fun h23 => ?_)
    refine y_aI hR19 hy ya170 yl170 (e_add rfl (e_n 1)) h23 (fun h24 h25 => ?_)
    refine y_sI hR19 hy ya170 yl170 rfl rv2 rfl h25 (fun g29 m27 hR28 => ?_)
    refine y_Q hR28 hy ya171.1 (by decide) ?_
    refine y_Q hR28 hy ya171.1 (by decide) ?_
    refine rf_ck (fun h32 => ?_)
    refine y_aI hR28 hy ya171 yl171 (e_add rfl (e_n 1)) h32 (fun h33 h34 => ?_)
    refine y_sI hR28 hy ya171 yl171 rfl rv2 rfl h34 (fun g38 m36 hR37 => ?_)
    refine y_Q hR37 hy ya172.1 (by decide) ?_
    refine y_Q hR37 hy ya172.1 (by decide) ?_
    refine rf_ck (fun h41 => ?_)
    refine y_aI hR37 hy ya172 yl172 (e_add rfl (e_n 1)) h41 (fun h42 h43 => ?_)
    refine y_sI hR37 hy ya172 yl172 rfl rv2 rfl h43 (fun g47 m45 hR46 => ?_)
    refine rf_bind (fL_Y_doTask_155 hy rfl rv2 (e_n 0) (show inR 0 by decide) hR46) (fun a49 m48 h => ?_)
    have hR50 : RC w y a49 n m48 := h
    refine rf_ck (fun h51 => ?_)
    exact rf_ok (by exact ⟨⟨(e_add rfl (e_n 1)), h51⟩, hR50⟩)
  · exact rf_ok (by exact hR)
noncomputable def NL_Y_doTask_75 (v2 : Int) (m : YS) : Option (YS) :=
  it (fun s : Int × YS => nb_Y_doTask_75 s.1 s.2) (v2, m)
theorem fL_Y_doTask_75 {w y : Prop} {g : g_S} {n : NS} {m : YS} (hy : y) {xv2 : Int32} {v2 : Int} (ev2 : xv2 = Int32.ofInt v2) (rv2 : inR v2) (hR : RC w y g n m) : Rf (fun a b => RC w y a n b) (L_Y_doTask_75 1838 xv2 g) (NL_Y_doTask_75 v2 m) := by
  subst ev2
  unfold L_Y_doTask_75 NL_Y_doTask_75
  refine rf_it (I := (fun a b => RI a.1 b.1 ∧ RC w y a.2 n b.2)) (fun s t h => ?_) ⟨⟨rfl, rv2⟩, hR⟩
  exact fb_Y_doTask_75 hy h.1.1 h.1.2 h.2
theorem NL_Y_doTask_75_eq (v2 : Int) (m : YS) : NL_Y_doTask_75 v2 m = itc (nb_Y_doTask_75 v2 m) (fun s => NL_Y_doTask_75 s.1 s.2) := it_eq2 (fun s : Int × YS => nb_Y_doTask_75 s.1 s.2) (v2, m)
noncomputable def N_Y_doTask (v1 : Int) (m : YS) : Option (YS) :=
  ix v1 20 <|
  st (yw m 160 0 (m 172 v1)) fun m5 =>
  (NL_Y_doTask_12 v1 0 m5).bind <| fun m8 =>
  ix v1 20 <|
  st (yw m8 161 0 (m8 170 v1)) fun m15 =>
  ix v1 20 <|
  st (yw m15 162 0 (m15 171 v1)) fun m22 =>
  ck ((m22 166 0) - 1) <|
  st (yw m22 166 0 ((m22 166 0) - 1)) fun m28 =>
  (NL_Y_doTask_75 v1 m28).bind <| fun m31 =>
  st (yw m31 163 0 0) fun m35 =>
  (N_Y_runScript m35).bind fun m39 =>
  some m39
theorem f_Y_doTask {w y : Prop} {g : g_S} {n : NS} {m : YS} (hy : y) {xv1 : Int32} {v1 : Int} (ev1 : xv1 = Int32.ofInt v1) (rv1 : inR v1) (hR : RC w y g n m) : Rf (fun a b => RC w y a n b) (M_Y_doTask 1838 xv1 g) (N_Y_doTask v1 m) := by
  subst ev1
  unfold M_Y_doTask N_Y_doTask
  refine y_Q hR hy ya172.1 (by decide) ?_
  refine y_aI hR hy ya172 yl172 rfl rv1 (fun h2 h3 => ?_)
  refine y_pI hR hy yk160 ⟨yt160, yz160⟩ rfl h3 (fun g7 m5 hR6 => ?_)
  refine rf_bind (fL_Y_doTask_12 hy rfl rv1 (e_n 0) (show inR 0 by decide) hR6) (fun a9 m8 h => ?_)
  have hR10 : RC w y a9 n m8 := h
  refine y_Q hR10 hy ya170.1 (by decide) ?_
  refine y_aI hR10 hy ya170 yl170 rfl rv1 (fun h12 h13 => ?_)
  refine y_pI hR10 hy yk161 ⟨yt161, yz161⟩ rfl h13 (fun g17 m15 hR16 => ?_)
  refine y_Q hR16 hy ya171.1 (by decide) ?_
  refine y_aI hR16 hy ya171 yl171 rfl rv1 (fun h19 h20 => ?_)
  refine y_pI hR16 hy yk162 ⟨yt162, yz162⟩ rfl h20 (fun g24 m22 hR23 => ?_)
  refine y_I hR23 hy yk166 yt166 (fun h25 => ?_)
  refine rf_ck (fun h26 => ?_)
  refine y_pI hR23 hy yk166 ⟨yt166, yz166⟩ (e_sub rfl (e_n 1)) h26 (fun g30 m28 hR29 => ?_)
  refine rf_bind (fL_Y_doTask_75 hy rfl rv1 hR29) (fun a32 m31 h => ?_)
  have hR33 : RC w y a32 n m31 := h
  refine y_pZ hR33 hy yk163 yt163 (e_n 0) (.inl rfl) (fun g37 m35 hR36 => ?_)
  refine v_c (y_gt hR36 hy) ?_
  refine rf_bind (f_Y_runScript hy hR36) (fun g41 m39 hR40 => ?_)
  exact rf_ok (by exact hR40)
