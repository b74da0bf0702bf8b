/-! methods on numbers, group 4 -/
noncomputable def nb_Sheet_cascade_58 (v1 : Int) (v2 : Int) (v3 : Int) (v4 : Int) (n : NS) : Option ((Int × NS) ⊕ (NS)) :=
  if v4 < (n 9 0 13) then
    (N_Sheet_isMatch v4 v1 n).bind fun z4 =>
    if z4 = 0 then
      ck (v4 + 1) <|
      some (.inl (v4 + 1, n))
    else
      (N_Sheet_apply v4 v3 n).bind fun n10 =>
      ck (v4 + 1) <|
      some (.inl (v4 + 1, n10))
  else
    some (.inr n)
theorem fb_Sheet_cascade_58 {w y : Prop} {g : g_S} {n : NS} {m : YS} (hw : w) {xv1 : Int32} {v1 : Int} (ev1 : xv1 = Int32.ofInt v1) (rv1 : inR v1) {xv2 : Nat} {v2 : Int} (ev2 : xv2 = aNd v2) (rv2 : 0 ≤ v2 ∧ v2 ≤ 120) {xv3 : Int32} {v3 : Int} (ev3 : xv3 = Int32.ofInt v3) (rv3 : inR v3) {xv4 : Int32} {v4 : Int} (ev4 : xv4 = Int32.ofInt v4) (rv4 : inR v4) (hR : RC w y g n m) : Rf (RS (fun a b => RI a.1 b.1 ∧ RC w y a.2 b.2 m) (fun a b => RC w y a b m)) (b_Sheet_cascade_58 1650 xv1 xv2 xv3 xv4 g) (nb_Sheet_cascade_58 v1 v2 v3 v4 n) := by
  subst ev1
  subst ev2
  subst ev3
  subst ev4
  unfold b_Sheet_cascade_58 nb_Sheet_cascade_58
  refine c_I (s := 13) hR (sK9 hR hw) rfl rfl (fun h1 => ?_)
  refine rf_lt rfl rfl rv4 h1 ?_ ?_
  · refine v_c (sK9 hR hw).1 ?_
    refine rf_bind (f_Sheet_isMatch hw rfl rv4 rfl rv1 hR) (fun a6 z4 h => ?_)
    obtain ⟨rfl, r5⟩ := h
    refine rf_eq rfl (e_n 0) (inZ.r r5) (show inR 0 by decide) ?_ ?_
    · refine rf_ck (fun h8 => ?_)
      exact rf_ok (by exact ⟨⟨(e_add rfl (e_n 1)), h8⟩, hR⟩)
    · refine v_c (sK9 hR hw).1 ?_
      refine rf_bind (f_Sheet_apply hw rfl rv4 rfl rv3 hR) (fun g12 n10 hR11 => ?_)
      refine rf_ck (fun h13 => ?_)
      exact rf_ok (by exact ⟨⟨(e_add rfl (e_n 1)), h13⟩, hR11⟩)
  · exact rf_ok (by exact hR)
noncomputable def NL_Sheet_cascade_58 (v1 : Int) (v2 : Int) (v3 : Int) (v4 : Int) (n : NS) : Option (NS) :=
  it (fun s : Int × NS => nb_Sheet_cascade_58 v1 v2 v3 s.1 s.2) (v4, n)
theorem fL_Sheet_cascade_58 {w y : Prop} {g : g_S} {n : NS} {m : YS} (hw : w) {xv1 : Int32} {v1 : Int} (ev1 : xv1 = Int32.ofInt v1) (rv1 : inR v1) {xv2 : Nat} {v2 : Int} (ev2 : xv2 = aNd v2) (rv2 : 0 ≤ v2 ∧ v2 ≤ 120) {xv3 : Int32} {v3 : Int} (ev3 : xv3 = Int32.ofInt v3) (rv3 : inR v3) {xv4 : Int32} {v4 : Int} (ev4 : xv4 = Int32.ofInt v4) (rv4 : inR v4) (hR : RC w y g n m) : Rf (fun a b => RC w y a b m) (L_Sheet_cascade_58 1650 xv1 xv2 xv3 xv4 g) (NL_Sheet_cascade_58 v1 v2 v3 v4 n) := by
  subst ev1
  subst ev2
  subst ev3
  subst ev4
  unfold L_Sheet_cascade_58 NL_Sheet_cascade_58
  refine rf_it (I := (fun a b => RI a.1 b.1 ∧ RC w y a.2 b.2 m)) (fun s t h => ?_) ⟨⟨rfl, rv4⟩, hR⟩
  exact fb_Sheet_cascade_58 hw rfl rv1 rfl rv2 rfl rv3 h.1.1 h.1.2 h.2
theorem NL_Sheet_cascade_58_eq (v1 : Int) (v2 : Int) (v3 : Int) (v4 : Int) (n : NS) : NL_Sheet_cascade_58 v1 v2 v3 v4 n = itc (nb_Sheet_cascade_58 v1 v2 v3 v4 n) (fun s => NL_Sheet_cascade_58 v1 v2 v3 s.1 s.2) := it_eq2 (fun s : Int × NS => nb_Sheet_cascade_58 v1 v2 v3 s.1 s.2) (v4, n)
noncomputable def nb_Sheet_cascade_18 (v1 : Int) (v2 : Int) (v3 : Int) (v4 : Int) (n : NS) : Option ((Int × NS) ⊕ (NS)) :=
  if v4 < 11 then
    ck (v3 + v4) <|
    (N_Sheet_usual v2 v4 n).bind fun z5 =>
    ix (v3 + v4) 1320 <|
    st (nw n 41 0 (v3 + v4) z5) fun n9 =>
    ix v4 11 <|
    st (nw n9 40 0 v4 (-1)) fun n14 =>
    ck (v4 + 1) <|
    some (.inl (v4 + 1, n14))
  else
    some (.inr n)
theorem fb_Sheet_cascade_18 {w y : Prop} {g : g_S} {n : NS} {m : YS} (hw : w) {xv1 : Int32} {v1 : Int} (ev1 : xv1 = Int32.ofInt v1) (rv1 : inR v1) {xv2 : Nat} {v2 : Int} (ev2 : xv2 = aNd v2) (rv2 : 0 ≤ v2 ∧ v2 ≤ 120) {xv3 : Int32} {v3 : Int} (ev3 : xv3 = Int32.ofInt v3) (rv3 : inR v3) {xv4 : Int32} {v4 : Int} (ev4 : xv4 = Int32.ofInt v4) (rv4 : inR v4) (hR : RC w y g n m) : Rf (RS (fun a b => RI a.1 b.1 ∧ RC w y a.2 b.2 m) (fun a b => RC w y a b m)) (b_Sheet_cascade_18 1650 xv1 xv2 xv3 xv4 g) (nb_Sheet_cascade_18 v1 v2 v3 v4 n) := by
  subst ev1
  subst ev2
  subst ev3
  subst ev4
  unfold b_Sheet_cascade_18 nb_Sheet_cascade_18
  refine rf_lt rfl (e_n 11) rv4 (show inR 11 by decide) ?_ ?_
  · refine c_S hR hw (sK9 hR hw) (by decide) (show srf 9 0 10 = some 1660 from rfl) ?_
    refine rf_ck (fun h3 => ?_)
    refine v_c (sK9 hR hw).1 ?_
    refine rf_bind (f_Sheet_usual hw rfl rv2 rfl rv4 hR) (fun a7 z5 h => ?_)
    obtain ⟨rfl, r6⟩ := h
    refine t_I (L := 1320) hR (sA41 hR hw) (lA41 hR hw) rfl (e_add rfl rfl) h3 rfl r6 (fun g11 n9 hR10 => ?_)
    refine c_S hR10 hw (sK9 hR10 hw) (by decide) (show srf 9 0 9 = some 1659 from rfl) ?_
    refine t_I (L := 11) hR10 (sA40 hR10 hw) (lA40 hR10 hw) rfl rfl rv4 (e_m 1) (show inR (-1) by decide) (fun g16 n14 hR15 => ?_)
    refine rf_ck (fun h17 => ?_)
    exact rf_ok (by exact ⟨⟨(e_add rfl (e_n 1)), h17⟩, hR15⟩)
  · exact rf_ok (by exact hR)
noncomputable def NL_Sheet_cascade_18 (v1 : Int) (v2 : Int) (v3 : Int) (v4 : Int) (n : NS) : Option (NS) :=
  it (fun s : Int × NS => nb_Sheet_cascade_18 v1 v2 v3 s.1 s.2) (v4, n)
theorem fL_Sheet_cascade_18 {w y : Prop} {g : g_S} {n : NS} {m : YS} (hw : w) {xv1 : Int32} {v1 : Int} (ev1 : xv1 = Int32.ofInt v1) (rv1 : inR v1) {xv2 : Nat} {v2 : Int} (ev2 : xv2 = aNd v2) (rv2 : 0 ≤ v2 ∧ v2 ≤ 120) {xv3 : Int32} {v3 : Int} (ev3 : xv3 = Int32.ofInt v3) (rv3 : inR v3) {xv4 : Int32} {v4 : Int} (ev4 : xv4 = Int32.ofInt v4) (rv4 : inR v4) (hR : RC w y g n m) : Rf (fun a b => RC w y a b m) (L_Sheet_cascade_18 1650 xv1 xv2 xv3 xv4 g) (NL_Sheet_cascade_18 v1 v2 v3 v4 n) := by
  subst ev1
  subst ev2
  subst ev3
  subst ev4
  unfold L_Sheet_cascade_18 NL_Sheet_cascade_18
  refine rf_it (I := (fun a b => RI a.1 b.1 ∧ RC w y a.2 b.2 m)) (fun s t h => ?_) ⟨⟨rfl, rv4⟩, hR⟩
  exact fb_Sheet_cascade_18 hw rfl rv1 rfl rv2 rfl rv3 h.1.1 h.1.2 h.2
theorem NL_Sheet_cascade_18_eq (v1 : Int) (v2 : Int) (v3 : Int) (v4 : Int) (n : NS) : NL_Sheet_cascade_18 v1 v2 v3 v4 n = itc (nb_Sheet_cascade_18 v1 v2 v3 v4 n) (fun s => NL_Sheet_cascade_18 v1 v2 v3 s.1 s.2) := it_eq2 (fun s : Int × NS => nb_Sheet_cascade_18 v1 v2 v3 s.1 s.2) (v4, n)
noncomputable def nk_Sheet_cascade_156 (v3 : Int) (w0 : Int) (w1 : Int) (n : NS) : Option (NS) :=
  ix w1 1320 <|
  st (nw n 41 0 w1 w0) fun n2 =>
  ck (v3 + 10) <|
  ix (v3 + 10) 1320 <|
  st (nw n2 41 0 (v3 + 10) 0) fun n8 =>
  some n8
theorem fk_Sheet_cascade_156 {w y : Prop} {g : g_S} {n : NS} {m : YS} (hw : w) {xv3 : Int32} {v3 : Int} (ev3 : xv3 = Int32.ofInt v3) (rv3 : inR v3) {xw0 : Int32} {w0 : Int} (ew0 : xw0 = Int32.ofInt w0) (rw0 : inR w0) {xw1 : Int32} {w1 : Int} (ew1 : xw1 = Int32.ofInt w1) (rw1 : inR w1) (hR : RC w y g n m) : Rf (fun a b => RC w y a b m) (k_Sheet_cascade_156 1650 xv3 xw0 xw1 1660 g) (nk_Sheet_cascade_156 v3 w0 w1 n) := by
  subst ev3
  subst ew0
  subst ew1
  unfold k_Sheet_cascade_156 nk_Sheet_cascade_156
  refine t_I (L := 1320) hR (sA41 hR hw) (lA41 hR hw) rfl rfl rw1 rfl rw0 (fun g4 n2 hR3 => ?_)
  refine c_S hR3 hw (sK9 hR3 hw) (by decide) (show srf 9 0 10 = some 1660 from rfl) ?_
  refine rf_ck (fun h6 => ?_)
  refine t_I (L := 1320) hR3 (sA41 hR3 hw) (lA41 hR3 hw) rfl (e_add rfl (e_n 10)) h6 (e_n 0) (show inR 0 by decide) (fun g10 n8 hR9 => ?_)
  exact rf_ok (by exact hR9)
noncomputable def nk_Sheet_cascade_132 (v3 : Int) (n : NS) : Option (NS) :=
  ck (v3 + 0) <|
  ck (v3 + 0) <|
  ix (v3 + 0) 1320 <|
  if (n 41 0 (v3 + 0)) = 2 then
    nk_Sheet_cascade_156 v3 2 (v3 + 0) n
  else
    nk_Sheet_cascade_156 v3 1 (v3 + 0) n
theorem fk_Sheet_cascade_132 {w y : Prop} {g : g_S} {n : NS} {m : YS} (hw : w) {xv3 : Int32} {v3 : Int} (ev3 : xv3 = Int32.ofInt v3) (rv3 : inR v3) (hR : RC w y g n m) : Rf (fun a b => RC w y a b m) (k_Sheet_cascade_132 1650 xv3 g) (nk_Sheet_cascade_132 v3 n) := by
  subst ev3
  unfold k_Sheet_cascade_132 nk_Sheet_cascade_132
  refine c_S hR hw (sK9 hR hw) (by decide) (show srf 9 0 10 = some 1660 from rfl) ?_
  refine rf_ck (fun h2 => ?_)
  refine c_S hR hw (sK9 hR hw) (by decide) (show srf 9 0 10 = some 1660 from rfl) ?_
  refine rf_ck (fun h4 => ?_)
  refine s_I (L := 1320) hR (sA41 hR hw) rfl (lA41 hR hw) rfl (e_add rfl (e_n 0)) h4 (fun h5 h6 => ?_)
  refine rf_eq rfl (e_n 2) h6 (show inR 2 by decide) ?_ ?_
  · exact fk_Sheet_cascade_156 hw rfl rv3 (e_n 2) (show inR 2 by decide) (e_add rfl (e_n 0)) h2 hR
  · exact fk_Sheet_cascade_156 hw rfl rv3 (e_n 1) (show inR 1 by decide) (e_add rfl (e_n 0)) h2 hR
noncomputable def N_Sheet_cascade (v1 : Int) (n : NS) : Option (NS) :=
  ix v1 120 <|
  ck (v1 * 11) <|
  (NL_Sheet_cascade_18 v1 v1 (v1 * 11) 0 n).bind <| fun n6 =>
  (NL_Sheet_cascade_58 v1 v1 (v1 * 11) 0 n6).bind <| fun n9 =>
  if v1 = 0 then
    ck ((v1 * 11) + 0) <|
    ix ((v1 * 11) + 0) 1320 <|
    st (nw n9 41 0 ((v1 * 11) + 0) 0) fun n16 =>
    ck ((v1 * 11) + 10) <|
    ix ((v1 * 11) + 10) 1320 <|
    st (nw n16 41 0 ((v1 * 11) + 10) 0) fun n22 =>
    some n22
  else
    if (n9 7 v1 0) = 10 then
      nk_Sheet_cascade_132 (v1 * 11) n9
    else
      (N_Node_isPieceTag v1 n9).bind fun z29 =>
      if z29 = 0 then
        ck ((v1 * 11) + 10) <|
        ix ((v1 * 11) + 10) 1320 <|
        if (n9 41 0 ((v1 * 11) + 10)) = 0 then
          some n9
        else
          ck ((v1 * 11) + 0) <|
          ix ((v1 * 11) + 0) 1320 <|
          if (n9 41 0 ((v1 * 11) + 0)) = 1 then
            ck ((v1 * 11) + 0) <|
            ix ((v1 * 11) + 0) 1320 <|
            st (nw n9 41 0 ((v1 * 11) + 0) 0) fun n47 =>
            some n47
          else
            some n9
      else
        nk_Sheet_cascade_132 (v1 * 11) n9
theorem f_Sheet_cascade {w y : Prop} {g : g_S} {n : NS} {m : YS} (hw : w) {xv1 : Int32} {v1 : Int} (ev1 : xv1 = Int32.ofInt v1) (rv1 : inR v1) (hR : RC w y g n m) : Rf (fun a b => RC w y a b m) (M_Sheet_cascade 1650 xv1 g) (N_Sheet_cascade v1 n) := by
  subst ev1
  unfold M_Sheet_cascade N_Sheet_cascade
  refine c_S hR hw (sK9 hR hw) (by decide) (show srf 9 0 0 = some 5 from rfl) ?_
  refine c_S hR hw (sK10 hR hw) (by decide) (show srf 10 0 0 = some 6 from rfl) ?_
  refine s_S (p := aNd (_)) (L := 120) hR hw (sA20 hR hw) (by decide) (lA20 hR hw) rfl rfl rv1 (fun z1 z2 => srf20 z1 z2) (fun h3 => ?_)
  refine rf_ck (fun h5 => ?_)
  refine rf_bind (fL_Sheet_cascade_18 hw rfl rv1 rfl (And.intro h3.1 (Int.le_of_lt h3.2)) (e_mul rfl (e_n 11)) h5 (e_n 0) (show inR 0 by decide) hR) (fun a7 n6 h => ?_)
  have hR8 : RC w y a7 n6 m := h
  refine rf_bind (fL_Sheet_cascade_58 hw rfl rv1 rfl (And.intro h3.1 (Int.le_of_lt h3.2)) (e_mul rfl (e_n 11)) h5 (e_n 0) (show inR 0 by decide) hR8) (fun a10 n9 h => ?_)
  have hR11 : RC w y a10 n9 m := h
  refine rf_eq rfl (e_n 0) rv1 (show inR 0 by decide) ?_ ?_
  · refine c_S hR11 hw (sK9 hR11 hw) (by decide) (show srf 9 0 10 = some 1660 from rfl) ?_
    refine rf_ck (fun h14 => ?_)
    refine t_I (L := 1320) hR11 (sA41 hR11 hw) (lA41 hR11 hw) rfl (e_add (e_mul rfl (e_n 11)) (e_n 0)) h14 (e_n 0) (show inR 0 by decide) (fun g18 n16 hR17 => ?_)
    refine c_S hR17 hw (sK9 hR17 hw) (by decide) (show srf 9 0 10 = some 1660 from rfl) ?_
    refine rf_ck (fun h20 => ?_)
    refine t_I (L := 1320) hR17 (sA41 hR17 hw) (lA41 hR17 hw) rfl (e_add (e_mul rfl (e_n 11)) (e_n 10)) h20 (e_n 0) (show inR 0 by decide) (fun g24 n22 hR23 => ?_)
    exact rf_ok (by exact hR23)
  · refine c_I (s := 0) hR11 (ce_nd hR11 hw (And.intro h3.1 (Int.le_of_lt h3.2))) rfl rfl (fun h26 => ?_)
    refine rf_eq rfl (e_n 10) h26 (show inR 10 by decide) ?_ ?_
    · exact fk_Sheet_cascade_132 hw (e_mul rfl (e_n 11)) h5 hR11
    · refine v_c (ce_nd hR11 hw (And.intro h3.1 (Int.le_of_lt h3.2))).1 ?_
      refine rf_bind (f_Node_isPieceTag hw rfl (And.intro h3.1 (Int.le_of_lt h3.2)) hR11) (fun a31 z29 h => ?_)
      obtain ⟨rfl, r30⟩ := h
      refine rf_eq rfl (e_n 0) (inZ.r r30) (show inR 0 by decide) ?_ ?_
      · refine c_S hR11 hw (sK9 hR11 hw) (by decide) (show srf 9 0 10 = some 1660 from rfl) ?_
        refine rf_ck (fun h34 => ?_)
        refine s_I (L := 1320) hR11 (sA41 hR11 hw) rfl (lA41 hR11 hw) rfl (e_add (e_mul rfl (e_n 11)) (e_n 10)) h34 (fun h35 h36 => ?_)
        refine rf_eq rfl (e_n 0) h36 (show inR 0 by decide) ?_ ?_
        · exact rf_ok (by exact hR11)
        · refine c_S hR11 hw (sK9 hR11 hw) (by decide) (show srf 9 0 10 = some 1660 from rfl) ?_
          refine rf_ck (fun h40 => ?_)
          refine s_I (L := 1320) hR11 (sA41 hR11 hw) rfl (lA41 hR11 hw) rfl (e_add (e_mul rfl (e_n 11)) (e_n 0)) h40 (fun h41 h42 => ?_)
          refine rf_eq rfl (e_n 1) h42 (show inR 1 by decide) ?_ ?_
          · refine c_S hR11 hw (sK9 hR11 hw) (by decide) (show srf 9 0 10 = some 1660 from rfl) ?_
            refine rf_ck (fun h45 => ?_)
            refine t_I (L := 1320) hR11 (sA41 hR11 hw) (lA41 hR11 hw) rfl (e_add (e_mul rfl (e_n 11)) (e_n 0)) h45 (e_n 0) (show inR 0 by decide) (fun g49 n47 hR48 => ?_)
            exact rf_ok (by exact hR48)
          · exact rf_ok (by exact hR11)
      · exact fk_Sheet_cascade_132 hw (e_mul rfl (e_n 11)) h5 hR11
noncomputable def nb_Sheet_refresh_132 (v1 : Int) (n : NS) : Option ((Int × NS) ⊕ (NS)) :=
  if v1 < (n 10 0 3) then
    ix v1 120 <|
    ix (n 22 0 v1) 120 <|
    if (n 7 (n 22 0 v1) 0) = 17 then
      ck (v1 + 1) <|
      some (.inl (v1 + 1, n))
    else
      ix v1 120 <|
      (N_Sheet_cascade (n 22 0 v1) n).bind fun n20 =>
      ck (v1 + 1) <|
      some (.inl (v1 + 1, n20))
  else
    some (.inr n)
theorem fb_Sheet_refresh_132 {w y : Prop} {g : g_S} {n : NS} {m : YS} (hw : w) {xv1 : Int32} {v1 : Int} (ev1 : xv1 = Int32.ofInt v1) (rv1 : inR v1) (hR : RC w y g n m) : Rf (RS (fun a b => RI a.1 b.1 ∧ RC w y a.2 b.2 m) (fun a b => RC w y a b m)) (b_Sheet_refresh_132 1650 xv1 g) (nb_Sheet_refresh_132 v1 n) := by
  subst ev1
  unfold b_Sheet_refresh_132 nb_Sheet_refresh_132
  refine c_S hR hw (sK9 hR hw) (by decide) (show srf 9 0 0 = some 5 from rfl) ?_
  refine c_I (s := 3) hR (sK10 hR hw) rfl rfl (fun h2 => ?_)
  refine rf_lt rfl rfl rv1 h2 ?_ ?_
  · refine c_S hR hw (sK9 hR hw) (by decide) (show srf 9 0 0 = some 5 from rfl) ?_
    refine c_S hR hw (sK10 hR hw) (by decide) (show srf 10 0 0 = some 6 from rfl) ?_
    refine c_S hR hw (sK9 hR hw) (by decide) (show srf 9 0 0 = some 5 from rfl) ?_
    refine c_S hR hw (sK10 hR hw) (by decide) (show srf 10 0 2 = some 8 from rfl) ?_
    refine s_I (L := 120) hR (sA22 hR hw) rfl (lA22 hR hw) rfl rfl rv1 (fun h8 h9 => ?_)
    refine s_S (p := aNd (_)) (L := 120) hR hw (sA20 hR hw) (by decide) (lA20 hR hw) rfl rfl h9 (fun z1 z2 => srf20 z1 z2) (fun h10 => ?_)
    refine c_I (s := 0) hR (ce_nd hR hw (And.intro h10.1 (Int.le_of_lt h10.2))) rfl rfl (fun h12 => ?_)
    refine rf_eq rfl (e_n 17) h12 (show inR 17 by decide) ?_ ?_
    · refine rf_ck (fun h14 => ?_)
      exact rf_ok (by exact ⟨⟨(e_add rfl (e_n 1)), h14⟩, hR⟩)
    · refine c_S hR hw (sK9 hR hw) (by decide) (show srf 9 0 0 = some 5 from rfl) ?_
      refine c_S hR hw (sK10 hR hw) (by decide) (show srf 10 0 2 = some 8 from rfl) ?_
      refine s_I (L := 120) hR (sA22 hR hw) rfl (lA22 hR hw) rfl rfl rv1 (fun h17 h18 => ?_)
      refine v_c (sK9 hR hw).1 ?_
      refine rf_bind (f_Sheet_cascade hw rfl h18 hR) (fun g22 n20 hR21 => ?_)
      refine rf_ck (fun h23 => ?_)
      exact rf_ok (by exact ⟨⟨(e_add rfl (e_n 1)), h23⟩, hR21⟩)
  · exact rf_ok (by exact hR)
noncomputable def NL_Sheet_refresh_132 (v1 : Int) (n : NS) : Option (NS) :=
  it (fun s : Int × NS => nb_Sheet_refresh_132 s.1 s.2) (v1, n)
theorem fL_Sheet_refresh_132 {w y : Prop} {g : g_S} {n : NS} {m : YS} (hw : w) {xv1 : Int32} {v1 : Int} (ev1 : xv1 = Int32.ofInt v1) (rv1 : inR v1) (hR : RC w y g n m) : Rf (fun a b => RC w y a b m) (L_Sheet_refresh_132 1650 xv1 g) (NL_Sheet_refresh_132 v1 n) := by
  subst ev1
  unfold L_Sheet_refresh_132 NL_Sheet_refresh_132
  refine rf_it (I := (fun a b => RI a.1 b.1 ∧ RC w y a.2 b.2 m)) (fun s t h => ?_) ⟨⟨rfl, rv1⟩, hR⟩
  exact fb_Sheet_refresh_132 hw h.1.1 h.1.2 h.2
theorem NL_Sheet_refresh_132_eq (v1 : Int) (n : NS) : NL_Sheet_refresh_132 v1 n = itc (nb_Sheet_refresh_132 v1 n) (fun s => NL_Sheet_refresh_132 s.1 s.2) := it_eq2 (fun s : Int × NS => nb_Sheet_refresh_132 s.1 s.2) (v1, n)
noncomputable def nb_Sheet_refresh_40 (v1 : Int) (n : NS) : Option ((Int × NS) ⊕ (NS)) :=
  if v1 < (n 10 0 3) then
    ix v1 120 <|
    ix (n 22 0 v1) 120 <|
    if (n 7 (n 22 0 v1) 0) = 17 then
      if (n 7 (n 22 0 v1) 2) = (-1) then
        ck (v1 + 1) <|
        some (.inl (v1 + 1, n))
      else
        ix (n 7 (n 22 0 v1) 2) 120 <|
        if (n 7 (n 7 (n 22 0 v1) 2) 0) = 15 then
          nn (n 4 (5 * (n 22 0 v1)) 1) <|
          (N_Sheet_readSheet (n 4 (5 * (n 22 0 v1)) 1) (n 4 (5 * (n 22 0 v1)) 2) n).bind fun n29 =>
          ck (v1 + 1) <|
          some (.inl (v1 + 1, n29))
        else
          ck (v1 + 1) <|
          some (.inl (v1 + 1, n))
    else
      ck (v1 + 1) <|
      some (.inl (v1 + 1, n))
  else
    some (.inr n)
theorem fb_Sheet_refresh_40 {w y : Prop} {g : g_S} {n : NS} {m : YS} (hw : w) {xv1 : Int32} {v1 : Int} (ev1 : xv1 = Int32.ofInt v1) (rv1 : inR v1) (hR : RC w y g n m) : Rf (RS (fun a b => RI a.1 b.1 ∧ RC w y a.2 b.2 m) (fun a b => RC w y a b m)) (b_Sheet_refresh_40 1650 xv1 g) (nb_Sheet_refresh_40 v1 n) := by
  subst ev1
  unfold b_Sheet_refresh_40 nb_Sheet_refresh_40
  refine c_S hR hw (sK9 hR hw) (by decide) (show srf 9 0 0 = some 5 from rfl) ?_
  refine c_I (s := 3) hR (sK10 hR hw) rfl rfl (fun h2 => ?_)
  refine rf_lt rfl rfl rv1 h2 ?_ ?_
  · refine c_S hR hw (sK9 hR hw) (by decide) (show srf 9 0 0 = some 5 from rfl) ?_
    refine c_S hR hw (sK10 hR hw) (by decide) (show srf 10 0 0 = some 6 from rfl) ?_
    refine c_S hR hw (sK9 hR hw) (by decide) (show srf 9 0 0 = some 5 from rfl) ?_
    refine c_S hR hw (sK10 hR hw) (by decide) (show srf 10 0 2 = some 8 from rfl) ?_
    refine s_I (L := 120) hR (sA22 hR hw) rfl (lA22 hR hw) rfl rfl rv1 (fun h8 h9 => ?_)
    refine s_S (p := aNd (_)) (L := 120) hR hw (sA20 hR hw) (by decide) (lA20 hR hw) rfl rfl h9 (fun z1 z2 => srf20 z1 z2) (fun h10 => ?_)
    refine c_I (s := 0) hR (ce_nd hR hw (And.intro h10.1 (Int.le_of_lt h10.2))) rfl rfl (fun h12 => ?_)
    refine rf_eq rfl (e_n 17) h12 (show inR 17 by decide) ?_ ?_
    · refine c_I (s := 2) hR (ce_nd hR hw (And.intro h10.1 (Int.le_of_lt h10.2))) rfl rfl (fun h14 => ?_)
      refine rf_eq rfl (e_m 1) h14 (show inR (-1) by decide) ?_ ?_
      · refine rf_ck (fun h16 => ?_)
        exact rf_ok (by exact ⟨⟨(e_add rfl (e_n 1)), h16⟩, hR⟩)
      · refine c_S hR hw (sK9 hR hw) (by decide) (show srf 9 0 0 = some 5 from rfl) ?_
        refine c_S hR hw (sK10 hR hw) (by decide) (show srf 10 0 0 = some 6 from rfl) ?_
        refine c_I (s := 2) hR (ce_nd hR hw (And.intro h10.1 (Int.le_of_lt h10.2))) rfl rfl (fun h19 => ?_)
        refine s_S (p := aNd (_)) (L := 120) hR hw (sA20 hR hw) (by decide) (lA20 hR hw) rfl rfl h19 (fun z1 z2 => srf20 z1 z2) (fun h20 => ?_)
        refine c_I (s := 0) hR (ce_nd hR hw (And.intro h20.1 (Int.le_of_lt h20.2))) rfl rfl (fun h22 => ?_)
        refine rf_eq rfl (e_n 15) h22 (show inR 15 by decide) ?_ ?_
        · refine c_S (p := _) hR hw (ce_nd hR hw (And.intro h10.1 (Int.le_of_lt h10.2))) (Nat.lt_trans (nd_lt (And.intro h10.1 (Int.le_of_lt h10.2))).1 (by decide)) rfl ?_
          refine c_D (s := 1) hR (ce_by hR hw (by5 (And.intro h10.1 (Int.le_of_lt h10.2)))) rfl rfl rfl (fun h25 => ?_)
          refine c_S (p := _) hR hw (ce_nd hR hw (And.intro h10.1 (Int.le_of_lt h10.2))) (Nat.lt_trans (nd_lt (And.intro h10.1 (Int.le_of_lt h10.2))).1 (by decide)) rfl ?_
          refine c_I (s := 2) hR (ce_by hR hw (by5 (And.intro h10.1 (Int.le_of_lt h10.2)))) rfl rfl (fun h27 => ?_)
          refine v_c (sK9 hR hw).1 ?_
          refine rf_bind (f_Sheet_readSheet hw rfl h25 rfl h27 hR) (fun g31 n29 hR30 => ?_)
          refine rf_ck (fun h32 => ?_)
          exact rf_ok (by exact ⟨⟨(e_add rfl (e_n 1)), h32⟩, hR30⟩)
        · refine rf_ck (fun h33 => ?_)
          exact rf_ok (by exact ⟨⟨(e_add rfl (e_n 1)), h33⟩, hR⟩)
    · refine rf_ck (fun h34 => ?_)
      exact rf_ok (by exact ⟨⟨(e_add rfl (e_n 1)), h34⟩, hR⟩)
  · exact rf_ok (by exact hR)
noncomputable def NL_Sheet_refresh_40 (v1 : Int) (n : NS) : Option (NS) :=
  it (fun s : Int × NS => nb_Sheet_refresh_40 s.1 s.2) (v1, n)
theorem fL_Sheet_refresh_40 {w y : Prop} {g : g_S} {n : NS} {m : YS} (hw : w) {xv1 : Int32} {v1 : Int} (ev1 : xv1 = Int32.ofInt v1) (rv1 : inR v1) (hR : RC w y g n m) : Rf (fun a b => RC w y a b m) (L_Sheet_refresh_40 1650 xv1 g) (NL_Sheet_refresh_40 v1 n) := by
  subst ev1
  unfold L_Sheet_refresh_40 NL_Sheet_refresh_40
  refine rf_it (I := (fun a b => RI a.1 b.1 ∧ RC w y a.2 b.2 m)) (fun s t h => ?_) ⟨⟨rfl, rv1⟩, hR⟩
  exact fb_Sheet_refresh_40 hw h.1.1 h.1.2 h.2
theorem NL_Sheet_refresh_40_eq (v1 : Int) (n : NS) : NL_Sheet_refresh_40 v1 n = itc (nb_Sheet_refresh_40 v1 n) (fun s => NL_Sheet_refresh_40 s.1 s.2) := it_eq2 (fun s : Int × NS => nb_Sheet_refresh_40 s.1 s.2) (v1, n)
noncomputable def N_Sheet_refresh (n : NS) : Option (NS) :=
  if (n 9 0 14) = (n 10 0 6) then
    some n
  else
    st (nw n 9 0 14 (n 10 0 6)) fun n9 =>
    st (nw n9 9 0 13 0) fun n13 =>
    (N_Tree_list n13).bind fun n18 =>
    (NL_Sheet_refresh_40 0 n18).bind <| fun n21 =>
    (NL_Sheet_refresh_132 0 n21).bind <| fun n24 =>
    some n24
theorem f_Sheet_refresh {w y : Prop} {g : g_S} {n : NS} {m : YS} (hw : w) (hR : RC w y g n m) : Rf (fun a b => RC w y a b m) (M_Sheet_refresh 1650 g) (N_Sheet_refresh n) := by
  unfold M_Sheet_refresh N_Sheet_refresh
  refine c_I (s := 14) hR (sK9 hR hw) rfl rfl (fun h1 => ?_)
  refine c_S hR hw (sK9 hR hw) (by decide) (show srf 9 0 0 = some 5 from rfl) ?_
  refine c_I (s := 6) hR (sK10 hR hw) rfl rfl (fun h3 => ?_)
  refine rf_eq rfl rfl h1 h3 ?_ ?_
  · exact rf_ok (by exact hR)
  · refine c_S hR hw (sK9 hR hw) (by decide) (show srf 9 0 0 = some 5 from rfl) ?_
    refine c_I (s := 6) hR (sK10 hR hw) rfl rfl (fun h7 => ?_)
    refine p_I (s := 14) hR (sK9 hR hw) rfl ⟨rfl, rfl, by decide⟩ rfl h7 (fun g11 n9 hR10 => ?_)
    refine p_I (s := 13) hR10 (sK9 hR10 hw) rfl ⟨rfl, rfl, by decide⟩ (e_n 0) (show inR 0 by decide) (fun g15 n13 hR14 => ?_)
    refine c_S hR14 hw (sK9 hR14 hw) (by decide) (show srf 9 0 0 = some 5 from rfl) ?_
    refine v_c (sK10 hR14 hw).1 ?_
    refine rf_bind (f_Tree_list hw hR14) (fun g20 n18 hR19 => ?_)
    refine rf_bind (fL_Sheet_refresh_40 hw (e_n 0) (show inR 0 by decide) hR19) (fun a22 n21 h => ?_)
    have hR23 : RC w y a22 n21 m := h
    refine rf_bind (fL_Sheet_refresh_132 hw (e_n 0) (show inR 0 by decide) hR23) (fun a25 n24 h => ?_)
    have hR26 : RC w y a25 n24 m := h
    exact rf_ok (by exact hR26)
noncomputable def nk_H_style_60 (v2 : Int) (w0 : Int) (n : NS) : Option (Int × NS) :=
  if w0 < 0 then
    some ((-1), n)
  else
    ck (w0 * 11) <|
    ck ((w0 * 11) + v2) <|
    ix ((w0 * 11) + v2) 1320 <|
    some ((n 41 0 ((w0 * 11) + v2)), n)
theorem fk_H_style_60 {w y : Prop} {g : g_S} {n : NS} {m : YS} (hw : w) {xv2 : Int32} {v2 : Int} (ev2 : xv2 = Int32.ofInt v2) (rv2 : inR v2) {xw0 : Int32} {w0 : Int} (ew0 : xw0 = Int32.ofInt w0) (rw0 : inR w0) (hR : RC w y g n m) : Rf (fun a b => RI a.1 b.1 ∧ RC w y a.2 b.2 m) (k_H_style_60 0 xv2 xw0 g) (nk_H_style_60 v2 w0 n) := by
  subst ev2
  subst ew0
  unfold k_H_style_60 nk_H_style_60
  refine rf_lt rfl (e_n 0) rw0 (show inR 0 by decide) ?_ ?_
  · exact rf_ok (by exact ⟨⟨(e_m 1), (show inR (-1) by decide)⟩, hR⟩)
  · refine c_S hR hw (sK11 hR hw) (by decide) (show srf 11 0 5 = some 1650 from rfl) ?_
    refine c_S hR hw (sK9 hR hw) (by decide) (show srf 9 0 10 = some 1660 from rfl) ?_
    refine rf_ck (fun h5 => ?_)
    refine rf_ck (fun h6 => ?_)
    refine s_I (L := 1320) hR (sA41 hR hw) rfl (lA41 hR hw) rfl (e_add (e_mul rfl (e_n 11)) rfl) h6 (fun h7 h8 => ?_)
    exact rf_ok (by exact ⟨⟨rfl, h8⟩, hR⟩)
noncomputable def N_H_style (v1 : Int) (v2 : Int) (n : NS) : Option (Int × NS) :=
  (N_H_isNode v1 n).bind fun z2 =>
  if z2 = 0 then
    some ((-1), n)
  else
    if v2 < 0 then
      some ((-1), n)
    else
      if v2 < 11 then
        (N_Sheet_refresh n).bind fun n12 =>
        ix v1 120 <|
        if (n12 7 v1 0) = 17 then
          ix v1 120 <|
          nk_H_style_60 v2 (n12 7 v1 2) n12
        else
          nk_H_style_60 v2 v1 n12
      else
        some ((-1), n)
theorem f_H_style {w y : Prop} {g : g_S} {n : NS} {m : YS} (hw : w) {xv1 : Int32} {v1 : Int} (ev1 : xv1 = Int32.ofInt v1) (rv1 : inR v1) {xv2 : Int32} {v2 : Int} (ev2 : xv2 = Int32.ofInt v2) (rv2 : inR v2) (hR : RC w y g n m) : Rf (fun a b => RI a.1 b.1 ∧ RC w y a.2 b.2 m) (M_H_style 0 xv1 xv2 g) (N_H_style v1 v2 n) := by
  subst ev1
  subst ev2
  unfold M_H_style N_H_style
  refine v_c (sK11 hR hw).1 ?_
  refine rf_bind (f_H_isNode hw rfl rv1 hR) (fun a4 z2 h => ?_)
  obtain ⟨rfl, r3⟩ := h
  refine rf_eq rfl (e_n 0) (inZ.r r3) (show inR 0 by decide) ?_ ?_
  · exact rf_ok (by exact ⟨⟨(e_m 1), (show inR (-1) by decide)⟩, hR⟩)
  · refine rf_lt rfl (e_n 0) rv2 (show inR 0 by decide) ?_ ?_
    · exact rf_ok (by exact ⟨⟨(e_m 1), (show inR (-1) by decide)⟩, hR⟩)
    · refine rf_lt rfl (e_n 11) rv2 (show inR 11 by decide) ?_ ?_
      · refine c_S hR hw (sK11 hR hw) (by decide) (show srf 11 0 5 = some 1650 from rfl) ?_
        refine v_c (sK9 hR hw).1 ?_
        refine rf_bind (f_Sheet_refresh hw hR) (fun g14 n12 hR13 => ?_)
        refine c_S hR13 hw (sK11 hR13 hw) (by decide) (show srf 11 0 2 = some 5 from rfl) ?_
        refine c_S hR13 hw (sK10 hR13 hw) (by decide) (show srf 10 0 0 = some 6 from rfl) ?_
        refine s_S (p := aNd (_)) (L := 120) hR13 hw (sA20 hR13 hw) (by decide) (lA20 hR13 hw) rfl rfl rv1 (fun z1 z2 => srf20 z1 z2) (fun h17 => ?_)
        refine c_I (s := 0) hR13 (ce_nd hR13 hw (And.intro h17.1 (Int.le_of_lt h17.2))) rfl rfl (fun h19 => ?_)
        refine rf_eq rfl (e_n 17) h19 (show inR 17 by decide) ?_ ?_
        · refine c_S hR13 hw (sK11 hR13 hw) (by decide) (show srf 11 0 2 = some 5 from rfl) ?_
          refine c_S hR13 hw (sK10 hR13 hw) (by decide) (show srf 10 0 0 = some 6 from rfl) ?_
          refine s_S (p := aNd (_)) (L := 120) hR13 hw (sA20 hR13 hw) (by decide) (lA20 hR13 hw) rfl rfl rv1 (fun z1 z2 => srf20 z1 z2) (fun h23 => ?_)
          refine c_I (s := 2) hR13 (ce_nd hR13 hw (And.intro h23.1 (Int.le_of_lt h23.2))) rfl rfl (fun h25 => ?_)
          exact fk_H_style_60 hw rfl rv2 rfl h25 hR13
        · exact fk_H_style_60 hw rfl rv2 rfl rv1 hR13
      · exact rf_ok (by exact ⟨⟨(e_m 1), (show inR (-1) by decide)⟩, hR⟩)
noncomputable def N_Layout_resize (v1 : Int) (n : NS) : Option (NS) :=
  st (nw n 5 0 3 v1) fun n2 =>
  st (nw n2 5 0 4 (-1)) fun n6 =>
  some n6
theorem f_Layout_resize {w y : Prop} {g : g_S} {n : NS} {m : YS} (hw : w) {xv1 : Int32} {v1 : Int} (ev1 : xv1 = Int32.ofInt v1) (rv1 : inR v1) (hR : RC w y g n m) : Rf (fun a b => RC w y a b m) (M_Layout_resize 1661 xv1 g) (N_Layout_resize v1 n) := by
  subst ev1
  unfold M_Layout_resize N_Layout_resize
  refine p_I (s := 3) hR (sK5 hR hw) rfl ⟨rfl, rfl, by decide⟩ rfl rv1 (fun g4 n2 hR3 => ?_)
  refine p_I (s := 4) hR3 (sK5 hR3 hw) rfl ⟨rfl, rfl, by decide⟩ (e_m 1) (show inR (-1) by decide) (fun g8 n6 hR7 => ?_)
  exact rf_ok (by exact hR7)
noncomputable def N_H_screen (v1 : Int) (n : NS) : Option (Int × NS) :=
  if v1 < 20 then
    some ((-1), n)
  else
    if 96 < v1 then
      some ((-1), n)
    else
      (N_Layout_resize v1 n).bind fun n7 =>
      some (1, n7)
theorem f_H_screen {w y : Prop} {g : g_S} {n : NS} {m : YS} (hw : w) {xv1 : Int32} {v1 : Int} (ev1 : xv1 = Int32.ofInt v1) (rv1 : inR v1) (hR : RC w y g n m) : Rf (fun a b => RI a.1 b.1 ∧ RC w y a.2 b.2 m) (M_H_screen 0 xv1 g) (N_H_screen v1 n) := by
  subst ev1
  unfold M_H_screen N_H_screen
  refine rf_lt rfl (e_n 20) rv1 (show inR 20 by decide) ?_ ?_
  · exact rf_ok (by exact ⟨⟨(e_m 1), (show inR (-1) by decide)⟩, hR⟩)
  · refine rf_lt (e_n 96) rfl (show inR 96 by decide) rv1 ?_ ?_
    · exact rf_ok (by exact ⟨⟨(e_m 1), (show inR (-1) by decide)⟩, hR⟩)
    · refine c_S hR hw (sK11 hR hw) (by decide) (show srf 11 0 6 = some 1661 from rfl) ?_
      refine v_c (sK5 hR hw).1 ?_
      refine rf_bind (f_Layout_resize hw rfl rv1 hR) (fun g9 n7 hR8 => ?_)
      exact rf_ok (by exact ⟨⟨(e_n 1), (show inR 1 by decide)⟩, hR8⟩)
noncomputable def N_Layout_look (v1 : Int) (v2 : Int) (n : NS) : Option (Int) :=
  ck (v1 * 11) <|
  ck ((v1 * 11) + v2) <|
  ix ((v1 * 11) + v2) 1320 <|
  some (n 41 0 ((v1 * 11) + v2))
theorem f_Layout_look {w y : Prop} {g : g_S} {n : NS} {m : YS} (hw : w) {xv1 : Int32} {v1 : Int} (ev1 : xv1 = Int32.ofInt v1) (rv1 : inR v1) {xv2 : Int32} {v2 : Int} (ev2 : xv2 = Int32.ofInt v2) (rv2 : inR v2) (hR : RC w y g n m) : Rf (fun a b => RI a b) (M_Layout_look 1661 xv1 xv2 g) (N_Layout_look v1 v2 n) := by
  subst ev1
  subst ev2
  unfold M_Layout_look N_Layout_look
  refine c_S hR hw (sK5 hR hw) (by decide) (show srf 5 0 1 = some 1650 from rfl) ?_
  refine c_S hR hw (sK9 hR hw) (by decide) (show srf 9 0 10 = some 1660 from rfl) ?_
  refine rf_ck (fun h3 => ?_)
  refine rf_ck (fun h4 => ?_)
  refine s_I (L := 1320) hR (sA41 hR hw) rfl (lA41 hR hw) rfl (e_add (e_mul rfl (e_n 11)) rfl) h4 (fun h5 h6 => ?_)
  exact rf_ok (by exact ⟨rfl, h6⟩)
noncomputable def nk_Layout_kindOf_104 (v5 : Int) (n : NS) : Option (Int) :=
  if v5 = 0 then
    some 3
  else
    some 0
theorem fk_Layout_kindOf_104 {w y : Prop} {g : g_S} {n : NS} {m : YS} (hw : w) {xv5 : Int32} {v5 : Int} (ev5 : xv5 = Int32.ofInt v5) (rv5 : inR v5) (hR : RC w y g n m) : Rf (fun a b => RI a b) (k_Layout_kindOf_104 xv5 g) (nk_Layout_kindOf_104 v5 n) := by
  subst ev5
  unfold k_Layout_kindOf_104 nk_Layout_kindOf_104
  refine rf_eq rfl (e_n 0) rv5 (show inR 0 by decide) ?_ ?_
  · exact rf_ok (by exact ⟨(e_n 3), (show inR 3 by decide)⟩)
  · exact rf_ok (by exact ⟨(e_n 0), (show inR 0 by decide)⟩)
noncomputable def nk_Layout_kindOf_84 (v1 : Int) (v2 : Int) (v3 : Int) (w0 : Int) (n : NS) : Option (Int) :=
  if (n 7 v2 0) = 17 then
    nk_Layout_kindOf_104 w0 n
  else
    if (n 7 v2 0) = 10 then
      nk_Layout_kindOf_104 w0 n
    else
      (N_Node_isPieceTag v2 n).bind fun z6 =>
      if z6 = 0 then
        if w0 = 0 then
          if v3 = 3 then
            if (n 7 v2 0) = 11 then
              some 0
            else
              some 3
          else
            (N_Layout_look v1 0 n).bind fun z17 =>
            if z17 = 1 then
              some 3
            else
              some 1
        else
          some 1
      else
        some 2
theorem fk_Layout_kindOf_84 {w y : Prop} {g : g_S} {n : NS} {m : YS} (hw : w) {xv1 : Int32} {v1 : Int} (ev1 : xv1 = Int32.ofInt v1) (rv1 : inR v1) {xv2 : Nat} {v2 : Int} (ev2 : xv2 = aNd v2) (rv2 : 0 ≤ v2 ∧ v2 ≤ 120) {xv3 : Int32} {v3 : Int} (ev3 : xv3 = Int32.ofInt v3) (rv3 : inR v3) {xw0 : Int32} {w0 : Int} (ew0 : xw0 = Int32.ofInt w0) (rw0 : inR w0) (hR : RC w y g n m) : Rf (fun a b => RI a b) (k_Layout_kindOf_84 1661 xv1 xv2 xv3 xw0 g) (nk_Layout_kindOf_84 v1 v2 v3 w0 n) := by
  subst ev1
  subst ev2
  subst ev3
  subst ew0
  unfold k_Layout_kindOf_84 nk_Layout_kindOf_84
  refine c_I (s := 0) hR (ce_nd hR hw rv2) rfl rfl (fun h1 => ?_)
  refine rf_eq rfl (e_n 17) h1 (show inR 17 by decide) ?_ ?_
  · exact fk_Layout_kindOf_104 hw rfl rw0 hR
  · refine c_I (s := 0) hR (ce_nd hR hw rv2) rfl rfl (fun h3 => ?_)
    refine rf_eq rfl (e_n 10) h3 (show inR 10 by decide) ?_ ?_
    · exact fk_Layout_kindOf_104 hw rfl rw0 hR
    · refine v_c (ce_nd hR hw rv2).1 ?_
      refine rf_bind (f_Node_isPieceTag hw rfl rv2 hR) (fun a8 z6 h => ?_)
      obtain ⟨rfl, r7⟩ := h
      refine rf_eq rfl (e_n 0) (inZ.r r7) (show inR 0 by decide) ?_ ?_
      · refine rf_eq rfl (e_n 0) rw0 (show inR 0 by decide) ?_ ?_
        · refine rf_eq rfl (e_n 3) rv3 (show inR 3 by decide) ?_ ?_
          · refine c_I (s := 0) hR (ce_nd hR hw rv2) rfl rfl (fun h12 => ?_)
            refine rf_eq rfl (e_n 11) h12 (show inR 11 by decide) ?_ ?_
            · exact rf_ok (by exact ⟨(e_n 0), (show inR 0 by decide)⟩)
            · exact rf_ok (by exact ⟨(e_n 3), (show inR 3 by decide)⟩)
          · refine v_c (sK5 hR hw).1 ?_
            refine rf_bind (f_Layout_look hw rfl rv1 (e_n 0) (show inR 0 by decide) hR) (fun a19 z17 h => ?_)
            obtain ⟨rfl, r18⟩ := h
            refine rf_eq rfl (e_n 1) r18 (show inR 1 by decide) ?_ ?_
            · exact rf_ok (by exact ⟨(e_n 3), (show inR 3 by decide)⟩)
            · exact rf_ok (by exact ⟨(e_n 1), (show inR 1 by decide)⟩)
        · exact rf_ok (by exact ⟨(e_n 1), (show inR 1 by decide)⟩)
      · exact rf_ok (by exact ⟨(e_n 2), (show inR 2 by decide)⟩)
noncomputable def nk_Layout_kindOf_83 (v1 : Int) (v2 : Int) (v3 : Int) (n : NS) : Option (Int) :=
  nk_Layout_kindOf_84 v1 v2 v3 0 n
theorem fk_Layout_kindOf_83 {w y : Prop} {g : g_S} {n : NS} {m : YS} (hw : w) {xv1 : Int32} {v1 : Int} (ev1 : xv1 = Int32.ofInt v1) (rv1 : inR v1) {xv2 : Nat} {v2 : Int} (ev2 : xv2 = aNd v2) (rv2 : 0 ≤ v2 ∧ v2 ≤ 120) {xv3 : Int32} {v3 : Int} (ev3 : xv3 = Int32.ofInt v3) (rv3 : inR v3) (hR : RC w y g n m) : Rf (fun a b => RI a b) (k_Layout_kindOf_83 1661 xv1 xv2 xv3 g) (nk_Layout_kindOf_83 v1 v2 v3 n) := by
  subst ev1
  subst ev2
  subst ev3
  unfold k_Layout_kindOf_83 nk_Layout_kindOf_83
  exact fk_Layout_kindOf_84 hw rfl rv1 rfl rv2 rfl rv3 (e_n 0) (show inR 0 by decide) hR
noncomputable def nk_Layout_kindOf_43 (v1 : Int) (v2 : Int) (v3 : Int) (w0 : Int) (n : NS) : Option (Int) :=
  if w0 = 0 then
    if v3 = 0 then
      some 0
    else
      if v3 = 2 then
        some 0
      else
        if v3 = 1 then
          (N_Layout_look (n 7 v2 2) 0 n).bind fun z9 =>
          if z9 = 3 then
            nk_Layout_kindOf_84 v1 v2 v3 1 n
          else
            nk_Layout_kindOf_83 v1 v2 v3 n
        else
          nk_Layout_kindOf_83 v1 v2 v3 n
  else
    some 0
theorem fk_Layout_kindOf_43 {w y : Prop} {g : g_S} {n : NS} {m : YS} (hw : w) {xv1 : Int32} {v1 : Int} (ev1 : xv1 = Int32.ofInt v1) (rv1 : inR v1) {xv2 : Nat} {v2 : Int} (ev2 : xv2 = aNd v2) (rv2 : 0 ≤ v2 ∧ v2 ≤ 120) {xv3 : Int32} {v3 : Int} (ev3 : xv3 = Int32.ofInt v3) (rv3 : inR v3) {xw0 : Int32} {w0 : Int} (ew0 : xw0 = Int32.ofInt w0) (rw0 : inR w0) (hR : RC w y g n m) : Rf (fun a b => RI a b) (k_Layout_kindOf_43 1661 xv1 xv2 xv3 xw0 g) (nk_Layout_kindOf_43 v1 v2 v3 w0 n) := by
  subst ev1
  subst ev2
  subst ev3
  subst ew0
  unfold k_Layout_kindOf_43 nk_Layout_kindOf_43
  refine rf_eq rfl (e_n 0) rw0 (show inR 0 by decide) ?_ ?_
  · refine rf_eq rfl (e_n 0) rv3 (show inR 0 by decide) ?_ ?_
    · exact rf_ok (by exact ⟨(e_n 0), (show inR 0 by decide)⟩)
    · refine rf_eq rfl (e_n 2) rv3 (show inR 2 by decide) ?_ ?_
      · exact rf_ok (by exact ⟨(e_n 0), (show inR 0 by decide)⟩)
      · refine rf_eq rfl (e_n 1) rv3 (show inR 1 by decide) ?_ ?_
        · refine c_I (s := 2) hR (ce_nd hR hw rv2) rfl rfl (fun h7 => ?_)
          refine v_c (sK5 hR hw).1 ?_
          refine rf_bind (f_Layout_look hw rfl h7 (e_n 0) (show inR 0 by decide) hR) (fun a11 z9 h => ?_)
          obtain ⟨rfl, r10⟩ := h
          refine rf_eq rfl (e_n 3) r10 (show inR 3 by decide) ?_ ?_
          · exact fk_Layout_kindOf_84 hw rfl rv1 rfl rv2 rfl rv3 (e_n 1) (show inR 1 by decide) hR
          · exact fk_Layout_kindOf_83 hw rfl rv1 rfl rv2 rfl rv3 hR
        · exact fk_Layout_kindOf_83 hw rfl rv1 rfl rv2 rfl rv3 hR
  · exact rf_ok (by exact ⟨(e_n 0), (show inR 0 by decide)⟩)
noncomputable def nk_Layout_kindOf_42 (v1 : Int) (v2 : Int) (v3 : Int) (n : NS) : Option (Int) :=
  nk_Layout_kindOf_43 v1 v2 v3 0 n
theorem fk_Layout_kindOf_42 {w y : Prop} {g : g_S} {n : NS} {m : YS} (hw : w) {xv1 : Int32} {v1 : Int} (ev1 : xv1 = Int32.ofInt v1) (rv1 : inR v1) {xv2 : Nat} {v2 : Int} (ev2 : xv2 = aNd v2) (rv2 : 0 ≤ v2 ∧ v2 ≤ 120) {xv3 : Int32} {v3 : Int} (ev3 : xv3 = Int32.ofInt v3) (rv3 : inR v3) (hR : RC w y g n m) : Rf (fun a b => RI a b) (k_Layout_kindOf_42 1661 xv1 xv2 xv3 g) (nk_Layout_kindOf_42 v1 v2 v3 n) := by
  subst ev1
  subst ev2
  subst ev3
  unfold k_Layout_kindOf_42 nk_Layout_kindOf_42
  exact fk_Layout_kindOf_43 hw rfl rv1 rfl rv2 rfl rv3 (e_n 0) (show inR 0 by decide) hR
noncomputable def N_Layout_kindOf (v1 : Int) (v2 : Int) (n : NS) : Option (Int) :=
  if v1 = 0 then
    some 1
  else
    ix (n 7 v2 2) 120 <|
    if (n 7 v2 0) = 17 then
      nk_Layout_kindOf_42 v1 v2 (n 3 (n 7 v2 2) 0) n
    else
      (N_Layout_look v1 0 n).bind fun z11 =>
      if z11 = 2 then
        nk_Layout_kindOf_43 v1 v2 (n 3 (n 7 v2 2) 0) 1 n
      else
        nk_Layout_kindOf_42 v1 v2 (n 3 (n 7 v2 2) 0) n
theorem f_Layout_kindOf {w y : Prop} {g : g_S} {n : NS} {m : YS} (hw : w) {xv1 : Int32} {v1 : Int} (ev1 : xv1 = Int32.ofInt v1) (rv1 : inR v1) {xv2 : Nat} {v2 : Int} (ev2 : xv2 = aNd v2) (rv2 : 0 ≤ v2 ∧ v2 ≤ 120) (hR : RC w y g n m) : Rf (fun a b => RI a b) (M_Layout_kindOf 1661 xv1 xv2 g) (N_Layout_kindOf v1 v2 n) := by
  subst ev1
  subst ev2
  unfold M_Layout_kindOf N_Layout_kindOf
  refine rf_eq rfl (e_n 0) rv1 (show inR 0 by decide) ?_ ?_
  · exact rf_ok (by exact ⟨(e_n 1), (show inR 1 by decide)⟩)
  · refine c_S hR hw (sK5 hR hw) (by decide) (show srf 5 0 2 = some 1662 from rfl) ?_
    refine c_I (s := 2) hR (ce_nd hR hw rv2) rfl rfl (fun h4 => ?_)
    refine s_S (p := aBx (_)) (L := 120) hR hw (sA42 hR hw) (by decide) (lA42 hR hw) rfl rfl h4 (fun z1 z2 => srf42 z1 z2) (fun h5 => ?_)
    refine c_I (s := 0) hR (ce_bx hR hw (And.intro h5.1 (Int.le_of_lt h5.2))) rfl rfl (fun h7 => ?_)
    refine c_I (s := 0) hR (ce_nd hR hw rv2) rfl rfl (fun h8 => ?_)
    refine rf_eq rfl (e_n 17) h8 (show inR 17 by decide) ?_ ?_
    · exact fk_Layout_kindOf_42 hw rfl rv1 rfl rv2 rfl h7 hR
    · refine v_c (sK5 hR hw).1 ?_
      refine rf_bind (f_Layout_look hw rfl rv1 (e_n 0) (show inR 0 by decide) hR) (fun a13 z11 h => ?_)
      obtain ⟨rfl, r12⟩ := h
      refine rf_eq rfl (e_n 2) r12 (show inR 2 by decide) ?_ ?_
      · exact fk_Layout_kindOf_43 hw rfl rv1 rfl rv2 rfl h7 (e_n 1) (show inR 1 by decide) hR
      · exact fk_Layout_kindOf_42 hw rfl rv1 rfl rv2 rfl h7 hR
noncomputable def N_Bytes_glyphWidth (v0 : Int) (n : NS) : Option (Int) :=
  if v0 = 33 then
    some 2
  else if v0 = 39 then
    some 2
  else if v0 = 44 then
    some 2
  else if v0 = 46 then
    some 2
  else if v0 = 58 then
    some 2
  else if v0 = 59 then
    some 2
  else if v0 = 64 then
    some 5
  else if v0 = 77 then
    some 5
  else if v0 = 87 then
    some 5
  else if v0 = 105 then
    some 2
  else if v0 = 106 then
    some 2
  else if v0 = 108 then
    some 2
  else if v0 = 109 then
    some 5
  else if v0 = 119 then
    some 5
  else if v0 = 124 then
    some 2
  else
    some 4
theorem f_Bytes_glyphWidth {w y : Prop} {g : g_S} {n : NS} {m : YS} {xv0 : Int32} {v0 : Int} (ev0 : xv0 = Int32.ofInt v0) (rv0 : inR v0) (hR : RC w y g n m) : Rf (fun a b => RI a b) (M_Bytes_glyphWidth xv0 g) (N_Bytes_glyphWidth v0 n) := by
  subst ev0
  unfold M_Bytes_glyphWidth N_Bytes_glyphWidth
  refine rf_eq rfl (e_n 33) rv0 (show inR 33 by decide) ?_ ?_
  · exact rf_ok (by exact ⟨(e_n 2), (show inR 2 by decide)⟩)
  refine rf_eq rfl (e_n 39) rv0 (show inR 39 by decide) ?_ ?_
  · exact rf_ok (by exact ⟨(e_n 2), (show inR 2 by decide)⟩)
  refine rf_eq rfl (e_n 44) rv0 (show inR 44 by decide) ?_ ?_
  · exact rf_ok (by exact ⟨(e_n 2), (show inR 2 by decide)⟩)
  refine rf_eq rfl (e_n 46) rv0 (show inR 46 by decide) ?_ ?_
  · exact rf_ok (by exact ⟨(e_n 2), (show inR 2 by decide)⟩)
  refine rf_eq rfl (e_n 58) rv0 (show inR 58 by decide) ?_ ?_
  · exact rf_ok (by exact ⟨(e_n 2), (show inR 2 by decide)⟩)
  refine rf_eq rfl (e_n 59) rv0 (show inR 59 by decide) ?_ ?_
  · exact rf_ok (by exact ⟨(e_n 2), (show inR 2 by decide)⟩)
  refine rf_eq rfl (e_n 64) rv0 (show inR 64 by decide) ?_ ?_
  · exact rf_ok (by exact ⟨(e_n 5), (show inR 5 by decide)⟩)
  refine rf_eq rfl (e_n 77) rv0 (show inR 77 by decide) ?_ ?_
  · exact rf_ok (by exact ⟨(e_n 5), (show inR 5 by decide)⟩)
  refine rf_eq rfl (e_n 87) rv0 (show inR 87 by decide) ?_ ?_
  · exact rf_ok (by exact ⟨(e_n 5), (show inR 5 by decide)⟩)
  refine rf_eq rfl (e_n 105) rv0 (show inR 105 by decide) ?_ ?_
  · exact rf_ok (by exact ⟨(e_n 2), (show inR 2 by decide)⟩)
  refine rf_eq rfl (e_n 106) rv0 (show inR 106 by decide) ?_ ?_
  · exact rf_ok (by exact ⟨(e_n 2), (show inR 2 by decide)⟩)
  refine rf_eq rfl (e_n 108) rv0 (show inR 108 by decide) ?_ ?_
  · exact rf_ok (by exact ⟨(e_n 2), (show inR 2 by decide)⟩)
  refine rf_eq rfl (e_n 109) rv0 (show inR 109 by decide) ?_ ?_
  · exact rf_ok (by exact ⟨(e_n 5), (show inR 5 by decide)⟩)
  refine rf_eq rfl (e_n 119) rv0 (show inR 119 by decide) ?_ ?_
  · exact rf_ok (by exact ⟨(e_n 5), (show inR 5 by decide)⟩)
  refine rf_eq rfl (e_n 124) rv0 (show inR 124 by decide) ?_ ?_
  · exact rf_ok (by exact ⟨(e_n 2), (show inR 2 by decide)⟩)
  exact rf_ok (by exact ⟨(e_n 4), (show inR 4 by decide)⟩)
noncomputable def N_Arrays_copyOf_1 (v0 : Int) (v1 : Int) (n : NS) : Option (Int × NS) :=
  ty n v0 0 <|
  ck (n 93 0 v0) <|
  if v1 = (n 93 0 v0) then
    none
  else
    al2 n v1 <|
    st (nnew n 0 v1 v1) fun n6 =>
    ty n6 v0 0 <|
    ck (n6 93 0 v0) <|
    cpg n6 0 v0 0 (n 90 0 0) 0 (min (n6 93 0 v0) v1) <|
    st (nwA n6 99 (n 90 0 0) (cpf (n6 99 v0) (n6 99 (n 90 0 0)) 0 0 (min (n6 93 0 v0) v1))) fun n15 =>
    some ((n 90 0 0), n15)
theorem f_Arrays_copyOf_1 {w y : Prop} {g : g_S} {n : NS} {m : YS} {xv0 : Nat} {v0 : Int} (ev0 : xv0 = Int.toNat v0) (rv0 : 0 ≤ v0 ∧ lc (Int.toNat v0) = (99, v0)) {xv1 : Int32} {v1 : Int} (ev1 : xv1 = Int32.ofInt v1) (rv1 : inR v1) (hR : RC w y g n m) : Rf (fun a b => RD a.1 b.1 ∧ RC w y a.2 b.2 m) (M_Arrays_copyOf_1 xv0 xv1 g) (N_Arrays_copyOf_1 v0 v1 n) := by
  subst ev0
  subst ev1
  unfold M_Arrays_copyOf_1 N_Arrays_copyOf_1
  refine d_N (t := 0) hR rv0 (by decide) (fun h1 h2 => ?_)
  refine rf_eq rfl rfl rv1 h1 ?_ ?_
  · exact rf_no
  · refine n_A hR (by decide) rfl rv1 (fun h9 g8 n6 hR7 h10 => ?_)
    refine d_N (t := 0) hR7 rv0 (by decide) (fun h11 h12 => ?_)
    refine n_cp hR7 (by decide) rv0 h9 (e_n 0) (show inR 0 by decide) (e_n 0) (show inR 0 by decide) (e_mn rfl rfl h11 rv1) (min_r h11 rv1) (fun g17 n15 hR16 => ?_)
    exact rf_ok (by exact ⟨⟨rfl, h9⟩, hR16⟩)
noncomputable def nk_Layout_addWord_40 (v1 : Int) (v2 : Int) (v3 : Int) (v4 : Int) (v5 : Int) (n : NS) : Option (NS) :=
  nn (n 5 0 5) <|
  dx n (n 5 0 5) 0 v5 <|
  st (nw n 99 (n 5 0 5) v5 v1) fun n3 =>
  nn (n3 5 0 5) <|
  ck (v5 + 1) <|
  dx n3 (n3 5 0 5) 0 (v5 + 1) <|
  st (nw n3 99 (n3 5 0 5) (v5 + 1) v2) fun n9 =>
  nn (n9 5 0 5) <|
  ck (v5 + 2) <|
  dx n9 (n9 5 0 5) 0 (v5 + 2) <|
  st (nw n9 99 (n9 5 0 5) (v5 + 2) v3) fun n15 =>
  nn (n15 5 0 5) <|
  ck (v5 + 5) <|
  dx n15 (n15 5 0 5) 0 (v5 + 5) <|
  st (nw n15 99 (n15 5 0 5) (v5 + 5) v4) fun n21 =>
  ck ((n21 5 0 6) + 1) <|
  st (nw n21 5 0 6 ((n21 5 0 6) + 1)) fun n27 =>
  some n27
theorem fk_Layout_addWord_40 {w y : Prop} {g : g_S} {n : NS} {m : YS} (hw : w) {xv1 : Int32} {v1 : Int} (ev1 : xv1 = Int32.ofInt v1) (rv1 : inR v1) {xv2 : Int32} {v2 : Int} (ev2 : xv2 = Int32.ofInt v2) (rv2 : inR v2) {xv3 : Int32} {v3 : Int} (ev3 : xv3 = Int32.ofInt v3) (rv3 : inR v3) {xv4 : Int32} {v4 : Int} (ev4 : xv4 = Int32.ofInt v4) (rv4 : inR v4) {xv5 : Int32} {v5 : Int} (ev5 : xv5 = Int32.ofInt v5) (rv5 : inR v5) (hR : RC w y g n m) : Rf (fun a b => RC w y a b m) (k_Layout_addWord_40 1661 xv1 xv2 xv3 xv4 xv5 g) (nk_Layout_addWord_40 v1 v2 v3 v4 v5 n) := by
  subst ev1
  subst ev2
  subst ev3
  subst ev4
  subst ev5
  unfold k_Layout_addWord_40 nk_Layout_addWord_40
  refine c_D (s := 5) hR (sK5 hR hw) rfl rfl rfl (fun h1 => ?_)
  refine e_I hR h1 rfl rv5 rfl rv1 (fun g5 n3 hR4 => ?_)
  refine c_D (s := 5) hR4 (sK5 hR4 hw) rfl rfl rfl (fun h6 => ?_)
  refine rf_ck (fun h7 => ?_)
  refine e_I hR4 h6 (e_add rfl (e_n 1)) h7 rfl rv2 (fun g11 n9 hR10 => ?_)
  refine c_D (s := 5) hR10 (sK5 hR10 hw) rfl rfl rfl (fun h12 => ?_)
  refine rf_ck (fun h13 => ?_)
  refine e_I hR10 h12 (e_add rfl (e_n 2)) h13 rfl rv3 (fun g17 n15 hR16 => ?_)
  refine c_D (s := 5) hR16 (sK5 hR16 hw) rfl rfl rfl (fun h18 => ?_)
  refine rf_ck (fun h19 => ?_)
  refine e_I hR16 h18 (e_add rfl (e_n 5)) h19 rfl rv4 (fun g23 n21 hR22 => ?_)
  refine c_I (s := 6) hR22 (sK5 hR22 hw) rfl rfl (fun h24 => ?_)
  refine rf_ck (fun h25 => ?_)
  refine p_I (s := 6) hR22 (sK5 hR22 hw) rfl ⟨rfl, rfl, by decide⟩ (e_add rfl (e_n 1)) h25 (fun g29 n27 hR28 => ?_)
  exact rf_ok (by exact hR28)
noncomputable def N_Layout_addWord (v1 : Int) (v2 : Int) (v3 : Int) (v4 : Int) (n : NS) : Option (NS) :=
  ck ((n 5 0 6) * 6) <|
  ck (((n 5 0 6) * 6) + 6) <|
  nn (n 5 0 5) <|
  ty n (n 5 0 5) 0 <|
  ck (n 93 0 (n 5 0 5)) <|
  if (n 93 0 (n 5 0 5)) < (((n 5 0 6) * 6) + 6) then
    nn (n 5 0 5) <|
    nn (n 5 0 5) <|
    ty n (n 5 0 5) 0 <|
    ck (n 93 0 (n 5 0 5)) <|
    ck ((n 93 0 (n 5 0 5)) * 2) <|
    (N_Arrays_copyOf_1 (n 5 0 5) ((n 93 0 (n 5 0 5)) * 2) n).bind <| u2 fun z14 n17 =>
    st (nw n17 5 0 5 z14) fun n21 =>
    nk_Layout_addWord_40 v1 v2 v3 v4 ((n 5 0 6) * 6) n21
  else
    nk_Layout_addWord_40 v1 v2 v3 v4 ((n 5 0 6) * 6) n
theorem f_Layout_addWord {w y : Prop} {g : g_S} {n : NS} {m : YS} (hw : w) {xv1 : Int32} {v1 : Int} (ev1 : xv1 = Int32.ofInt v1) (rv1 : inR v1) {xv2 : Int32} {v2 : Int} (ev2 : xv2 = Int32.ofInt v2) (rv2 : inR v2) {xv3 : Int32} {v3 : Int} (ev3 : xv3 = Int32.ofInt v3) (rv3 : inR v3) {xv4 : Int32} {v4 : Int} (ev4 : xv4 = Int32.ofInt v4) (rv4 : inR v4) (hR : RC w y g n m) : Rf (fun a b => RC w y a b m) (M_Layout_addWord 1661 xv1 xv2 xv3 xv4 g) (N_Layout_addWord v1 v2 v3 v4 n) := by
  subst ev1
  subst ev2
  subst ev3
  subst ev4
  unfold M_Layout_addWord N_Layout_addWord
  refine c_I (s := 6) hR (sK5 hR hw) rfl rfl (fun h1 => ?_)
  refine rf_ck (fun h2 => ?_)
  refine rf_ck (fun h3 => ?_)
  refine c_D (s := 5) hR (sK5 hR hw) rfl rfl rfl (fun h4 => ?_)
  refine d_N (t := 0) hR h4 (by decide) (fun h5 h6 => ?_)
  refine rf_lt rfl (e_add (e_mul rfl (e_n 6)) (e_n 6)) h5 h3 ?_ ?_
  · refine c_D (s := 5) hR (sK5 hR hw) rfl rfl rfl (fun h8 => ?_)
    refine c_D (s := 5) hR (sK5 hR hw) rfl rfl rfl (fun h9 => ?_)
    refine d_N (t := 0) hR h9 (by decide) (fun h10 h11 => ?_)
    refine rf_ck (fun h12 => ?_)
    refine rf_c2 (f_Arrays_copyOf_1 rfl h8 (e_mul rfl (e_n 2)) h12 hR) (fun a16 g19 b h => ?_)
    obtain ⟨z14, n17⟩ := b
    refine rf_v2 ?_
    obtain ⟨rfl, r15⟩ := (show RD a16 z14 from h.1)
    have hR18 : RC w y g19 n17 m := h.2
    refine p_R (s := 5) (a := _) hR18 (sK5 hR18 hw) rfl rfl rfl (rc_d r15) (fun g23 n21 hR22 => ?_)
    exact fk_Layout_addWord_40 hw rfl rv1 rfl rv2 rfl rv3 rfl rv4 (e_mul rfl (e_n 6)) h2 hR22
  · exact fk_Layout_addWord_40 hw rfl rv1 rfl rv2 rfl rv3 rfl rv4 (e_mul rfl (e_n 6)) h2 hR
noncomputable def nb_Layout_listWords_27 (v1 : Int) (v2 : Int) (v3 : Int) (v4 : Int) (v5 : Int) (v6 : Int) (n : NS) : Option ((Int × Int) ⊕ (Int × Int)) :=
  if v5 < (n 4 v2 2) then
    nn (n 4 v2 1) <|
    dx n (n 4 v2 1) 1 v5 <|
    (N_Bytes_isBlank (n 99 (n 4 v2 1) v5) n).bind fun z7 =>
    if z7 = 0 then
      nn (n 4 v2 1) <|
      dx n (n 4 v2 1) 1 v5 <|
      (N_Bytes_glyphWidth (n 99 (n 4 v2 1) v5) n).bind fun z15 =>
      ck (v6 + z15) <|
      ck (v5 + 1) <|
      some (.inl (v5 + 1, v6 + z15))
    else
      some (.inr (v5, v6))
  else
    some (.inr (v5, v6))
theorem fb_Layout_listWords_27 {w y : Prop} {g : g_S} {n : NS} {m : YS} (hw : w) {xv1 : Int32} {v1 : Int} (ev1 : xv1 = Int32.ofInt v1) (rv1 : inR v1) {xv2 : Nat} {v2 : Int} (ev2 : xv2 = aBy v2) (rv2 : 0 ≤ v2 ∧ v2 ≤ 631) {xv3 : Nat} {v3 : Int} (ev3 : xv3 = aBx v3) (rv3 : 0 ≤ v3 ∧ v3 ≤ 120) {xv4 : Int32} {v4 : Int} (ev4 : xv4 = Int32.ofInt v4) (rv4 : inR v4) {xv5 : Int32} {v5 : Int} (ev5 : xv5 = Int32.ofInt v5) (rv5 : inR v5) {xv6 : Int32} {v6 : Int} (ev6 : xv6 = Int32.ofInt v6) (rv6 : inR v6) (hR : RC w y g n m) : Rf (RS (fun a b => RI a.1 b.1 ∧ RI a.2 b.2) (fun a b => RI a.1 b.1 ∧ RI a.2 b.2)) (b_Layout_listWords_27 1661 xv1 xv2 xv3 xv4 xv5 xv6 g) (nb_Layout_listWords_27 v1 v2 v3 v4 v5 v6 n) := by
  subst ev1
  subst ev2
  subst ev3
  subst ev4
  subst ev5
  subst ev6
  unfold b_Layout_listWords_27 nb_Layout_listWords_27
  refine c_I (s := 2) hR (ce_by hR hw rv2) rfl rfl (fun h1 => ?_)
  refine rf_lt rfl rfl rv5 h1 ?_ ?_
  · refine c_D (s := 1) hR (ce_by hR hw rv2) rfl rfl rfl (fun h3 => ?_)
    refine d_B hR h3 rfl rv5 (fun h4 h5 => ?_)
    refine rf_bind (f_Bytes_isBlank rfl (inB.r h5) hR) (fun a9 z7 h => ?_)
    obtain ⟨rfl, r8⟩ := h
    refine rf_eq rfl (e_n 0) (inZ.r r8) (show inR 0 by decide) ?_ ?_
    · refine c_D (s := 1) hR (ce_by hR hw rv2) rfl rfl rfl (fun h11 => ?_)
      refine d_B hR h11 rfl rv5 (fun h12 h13 => ?_)
      refine rf_bind (f_Bytes_glyphWidth rfl (inB.r h13) hR) (fun a17 z15 h => ?_)
      obtain ⟨rfl, r16⟩ := h
      refine rf_ck (fun h18 => ?_)
      refine rf_ck (fun h19 => ?_)
      exact rf_ok (by exact ⟨⟨(e_add rfl (e_n 1)), h19⟩, ⟨(e_add rfl rfl), h18⟩⟩)
    · exact rf_ok (by exact ⟨⟨rfl, rv5⟩, ⟨rfl, rv6⟩⟩)
  · exact rf_ok (by exact ⟨⟨rfl, rv5⟩, ⟨rfl, rv6⟩⟩)
noncomputable def NL_Layout_listWords_27 (v1 : Int) (v2 : Int) (v3 : Int) (v4 : Int) (v5 : Int) (v6 : Int) (n : NS) : Option (Int × Int) :=
  it (fun s : Int × Int => nb_Layout_listWords_27 v1 v2 v3 v4 s.1 s.2 n) (v5, v6)
theorem fL_Layout_listWords_27 {w y : Prop} {g : g_S} {n : NS} {m : YS} (hw : w) {xv1 : Int32} {v1 : Int} (ev1 : xv1 = Int32.ofInt v1) (rv1 : inR v1) {xv2 : Nat} {v2 : Int} (ev2 : xv2 = aBy v2) (rv2 : 0 ≤ v2 ∧ v2 ≤ 631) {xv3 : Nat} {v3 : Int} (ev3 : xv3 = aBx v3) (rv3 : 0 ≤ v3 ∧ v3 ≤ 120) {xv4 : Int32} {v4 : Int} (ev4 : xv4 = Int32.ofInt v4) (rv4 : inR v4) {xv5 : Int32} {v5 : Int} (ev5 : xv5 = Int32.ofInt v5) (rv5 : inR v5) {xv6 : Int32} {v6 : Int} (ev6 : xv6 = Int32.ofInt v6) (rv6 : inR v6) (hR : RC w y g n m) : Rf (fun a b => RI a.1 b.1 ∧ RI a.2 b.2) (L_Layout_listWords_27 1661 xv1 xv2 xv3 xv4 xv5 xv6 g) (NL_Layout_listWords_27 v1 v2 v3 v4 v5 v6 n) := by
  subst ev1
  subst ev2
  subst ev3
  subst ev4
  subst ev5
  subst ev6
  unfold L_Layout_listWords_27 NL_Layout_listWords_27
  refine rf_it (I := (fun a b => RI a.1 b.1 ∧ RI a.2 b.2)) (fun s t h => ?_) ⟨⟨rfl, rv5⟩, ⟨rfl, rv6⟩⟩
  exact fb_Layout_listWords_27 hw rfl rv1 rfl rv2 rfl rv3 rfl rv4 h.1.1 h.1.2 h.2.1 h.2.2 hR
theorem NL_Layout_listWords_27_eq (v1 : Int) (v2 : Int) (v3 : Int) (v4 : Int) (v5 : Int) (v6 : Int) (n : NS) : NL_Layout_listWords_27 v1 v2 v3 v4 v5 v6 n = itc (nb_Layout_listWords_27 v1 v2 v3 v4 v5 v6 n) (fun s => NL_Layout_listWords_27 v1 v2 v3 v4 s.1 s.2 n) := it_eq2 (fun s : Int × Int => nb_Layout_listWords_27 v1 v2 v3 v4 s.1 s.2 n) (v5, v6)
noncomputable def nk_Layout_listWords_96 (v1 : Int) (v2 : Int) (v3 : Int) (v5 : Int) (n : NS) : Option ((Int × NS) ⊕ (NS)) :=
  ck (v5 + 1) <|
  some (.inl (v5 + 1, n))
theorem fk_Layout_listWords_96 {w y : Prop} {g : g_S} {n : NS} {m : YS} (hw : w) {xv1 : Int32} {v1 : Int} (ev1 : xv1 = Int32.ofInt v1) (rv1 : inR v1) {xv2 : Nat} {v2 : Int} (ev2 : xv2 = aBy v2) (rv2 : 0 ≤ v2 ∧ v2 ≤ 631) {xv3 : Nat} {v3 : Int} (ev3 : xv3 = aBx v3) (rv3 : 0 ≤ v3 ∧ v3 ≤ 120) {xv5 : Int32} {v5 : Int} (ev5 : xv5 = Int32.ofInt v5) (rv5 : inR v5) (hR : RC w y g n m) : Rf (RS (fun a b => RI a.1 b.1 ∧ RC w y a.2 b.2 m) (fun a b => RC w y a b m)) (k_Layout_listWords_96 1661 xv1 xv2 xv3 xv5 g) (nk_Layout_listWords_96 v1 v2 v3 v5 n) := by
  subst ev1
  subst ev2
  subst ev3
  subst ev5
  unfold k_Layout_listWords_96 nk_Layout_listWords_96
  refine rf_ck (fun h1 => ?_)
  exact rf_ok (by exact ⟨⟨(e_add rfl (e_n 1)), h1⟩, hR⟩)
noncomputable def nk_Layout_listWords_70 (v1 : Int) (v2 : Int) (v3 : Int) (v4 : Int) (v5 : Int) (v6 : Int) (n : NS) : Option ((Int × NS) ⊕ (NS)) :=
  if v4 < v5 then
    ck (v5 - v4) <|
    ck (v6 * (n 3 v3 11)) <|
    (N_Layout_addWord v1 v4 (v5 - v4) (v6 * (n 3 v3 11)) n).bind fun n6 =>
    nk_Layout_listWords_96 v1 v2 v3 v5 n6
  else
    nk_Layout_listWords_96 v1 v2 v3 v5 n
theorem fk_Layout_listWords_70 {w y : Prop} {g : g_S} {n : NS} {m : YS} (hw : w) {xv1 : Int32} {v1 : Int} (ev1 : xv1 = Int32.ofInt v1) (rv1 : inR v1) {xv2 : Nat} {v2 : Int} (ev2 : xv2 = aBy v2) (rv2 : 0 ≤ v2 ∧ v2 ≤ 631) {xv3 : Nat} {v3 : Int} (ev3 : xv3 = aBx v3) (rv3 : 0 ≤ v3 ∧ v3 ≤ 120) {xv4 : Int32} {v4 : Int} (ev4 : xv4 = Int32.ofInt v4) (rv4 : inR v4) {xv5 : Int32} {v5 : Int} (ev5 : xv5 = Int32.ofInt v5) (rv5 : inR v5) {xv6 : Int32} {v6 : Int} (ev6 : xv6 = Int32.ofInt v6) (rv6 : inR v6) (hR : RC w y g n m) : Rf (RS (fun a b => RI a.1 b.1 ∧ RC w y a.2 b.2 m) (fun a b => RC w y a b m)) (k_Layout_listWords_70 1661 xv1 xv2 xv3 xv4 xv5 xv6 g) (nk_Layout_listWords_70 v1 v2 v3 v4 v5 v6 n) := by
  subst ev1
  subst ev2
  subst ev3
  subst ev4
  subst ev5
  subst ev6
  unfold k_Layout_listWords_70 nk_Layout_listWords_70
  refine rf_lt rfl rfl rv4 rv5 ?_ ?_
  · refine rf_ck (fun h2 => ?_)
    refine c_I (s := 11) hR (ce_bx hR hw rv3) rfl rfl (fun h3 => ?_)
    refine rf_ck (fun h4 => ?_)
    refine v_c (sK5 hR hw).1 ?_
    refine rf_bind (f_Layout_addWord hw rfl rv1 rfl rv4 (e_sub rfl rfl) h2 (e_mul rfl rfl) h4 hR) (fun g8 n6 hR7 => ?_)
    exact fk_Layout_listWords_96 hw rfl rv1 rfl rv2 rfl rv3 rfl rv5 hR7
  · exact fk_Layout_listWords_96 hw rfl rv1 rfl rv2 rfl rv3 rfl rv5 hR
noncomputable def nb_Layout_listWords_11 (v1 : Int) (v2 : Int) (v3 : Int) (v4 : Int) (n : NS) : Option ((Int × NS) ⊕ (NS)) :=
  if v4 < (n 4 v2 2) then
    (NL_Layout_listWords_27 v1 v2 v3 v4 v4 0 n).bind <| u2 fun z3 z4 =>
    nk_Layout_listWords_70 v1 v2 v3 v4 z3 z4 n
  else
    some (.inr n)
theorem fb_Layout_listWords_11 {w y : Prop} {g : g_S} {n : NS} {m : YS} (hw : w) {xv1 : Int32} {v1 : Int} (ev1 : xv1 = Int32.ofInt v1) (rv1 : inR v1) {xv2 : Nat} {v2 : Int} (ev2 : xv2 = aBy v2) (rv2 : 0 ≤ v2 ∧ v2 ≤ 631) {xv3 : Nat} {v3 : Int} (ev3 : xv3 = aBx v3) (rv3 : 0 ≤ v3 ∧ v3 ≤ 120) {xv4 : Int32} {v4 : Int} (ev4 : xv4 = Int32.ofInt v4) (rv4 : inR v4) (hR : RC w y g n m) : Rf (RS (fun a b => RI a.1 b.1 ∧ RC w y a.2 b.2 m) (fun a b => RC w y a b m)) (b_Layout_listWords_11 1661 xv1 xv2 xv3 xv4 g) (nb_Layout_listWords_11 v1 v2 v3 v4 n) := by
  subst ev1
  subst ev2
  subst ev3
  subst ev4
  unfold b_Layout_listWords_11 nb_Layout_listWords_11
  refine c_I (s := 2) hR (ce_by hR hw rv2) rfl rfl (fun h1 => ?_)
  refine rf_lt rfl rfl rv4 h1 ?_ ?_
  · refine rf_bind (fL_Layout_listWords_27 hw rfl rv1 rfl rv2 rfl rv3 rfl rv4 rfl rv4 (e_n 0) (show inR 0 by decide) hR) (fun a b h => ?_)
    obtain ⟨a5, a6⟩ := a
    obtain ⟨z3, z4⟩ := b
    refine rf_u2 ?_
    obtain ⟨rfl, r7⟩ := (show RI a5 z3 from h.1)
    obtain ⟨rfl, r8⟩ := (show RI a6 z4 from h.2)
    exact fk_Layout_listWords_70 hw rfl rv1 rfl rv2 rfl rv3 rfl rv4 rfl r7 rfl r8 hR
  · exact rf_ok (by exact hR)
noncomputable def NL_Layout_listWords_11 (v1 : Int) (v2 : Int) (v3 : Int) (v4 : Int) (n : NS) : Option (NS) :=
  it (fun s : Int × NS => nb_Layout_listWords_11 v1 v2 v3 s.1 s.2) (v4, n)
theorem fL_Layout_listWords_11 {w y : Prop} {g : g_S} {n : NS} {m : YS} (hw : w) {xv1 : Int32} {v1 : Int} (ev1 : xv1 = Int32.ofInt v1) (rv1 : inR v1) {xv2 : Nat} {v2 : Int} (ev2 : xv2 = aBy v2) (rv2 : 0 ≤ v2 ∧ v2 ≤ 631) {xv3 : Nat} {v3 : Int} (ev3 : xv3 = aBx v3) (rv3 : 0 ≤ v3 ∧ v3 ≤ 120) {xv4 : Int32} {v4 : Int} (ev4 : xv4 = Int32.ofInt v4) (rv4 : inR v4) (hR : RC w y g n m) : Rf (fun a b => RC w y a b m) (L_Layout_listWords_11 1661 xv1 xv2 xv3 xv4 g) (NL_Layout_listWords_11 v1 v2 v3 v4 n) := by
  subst ev1
  subst ev2
  subst ev3
  subst ev4
  unfold L_Layout_listWords_11 NL_Layout_listWords_11
  refine rf_it (I := (fun a b => RI a.1 b.1 ∧ RC w y a.2 b.2 m)) (fun s t h => ?_) ⟨⟨rfl, rv4⟩, hR⟩
  exact fb_Layout_listWords_11 hw rfl rv1 rfl rv2 rfl rv3 h.1.1 h.1.2 h.2
theorem NL_Layout_listWords_11_eq (v1 : Int) (v2 : Int) (v3 : Int) (v4 : Int) (n : NS) : NL_Layout_listWords_11 v1 v2 v3 v4 n = itc (nb_Layout_listWords_11 v1 v2 v3 v4 n) (fun s => NL_Layout_listWords_11 v1 v2 v3 s.1 s.2) := it_eq2 (fun s : Int × NS => nb_Layout_listWords_11 v1 v2 v3 s.1 s.2) (v4, n)
noncomputable def N_Layout_listWords (v1 : Int) (v2 : Int) (v3 : Int) (n : NS) : Option (NS) :=
  st (nw n 3 v3 18 (n 5 0 6)) fun n3 =>
  (NL_Layout_listWords_11 v1 v2 v3 0 n3).bind <| fun n6 =>
  ck ((n6 5 0 6) - (n6 3 v3 18)) <|
  st (nw n6 3 v3 19 ((n6 5 0 6) - (n6 3 v3 18))) fun n13 =>
  some n13
theorem f_Layout_listWords {w y : Prop} {g : g_S} {n : NS} {m : YS} (hw : w) {xv1 : Int32} {v1 : Int} (ev1 : xv1 = Int32.ofInt v1) (rv1 : inR v1) {xv2 : Nat} {v2 : Int} (ev2 : xv2 = aBy v2) (rv2 : 0 ≤ v2 ∧ v2 ≤ 631) {xv3 : Nat} {v3 : Int} (ev3 : xv3 = aBx v3) (rv3 : 0 ≤ v3 ∧ v3 ≤ 120) (hR : RC w y g n m) : Rf (fun a b => RC w y a b m) (M_Layout_listWords 1661 xv1 xv2 xv3 g) (N_Layout_listWords v1 v2 v3 n) := by
  subst ev1
  subst ev2
  subst ev3
  unfold M_Layout_listWords N_Layout_listWords
  refine c_I (s := 6) hR (sK5 hR hw) rfl rfl (fun h1 => ?_)
  refine p_I (s := 18) hR (ce_bx hR hw rv3) rfl ⟨rfl, rfl, by decide⟩ rfl h1 (fun g5 n3 hR4 => ?_)
  refine rf_bind (fL_Layout_listWords_11 hw rfl rv1 rfl rv2 rfl rv3 (e_n 0) (show inR 0 by decide) hR4) (fun a7 n6 h => ?_)
  have hR8 : RC w y a7 n6 m := h
  refine c_I (s := 6) hR8 (sK5 hR8 hw) rfl rfl (fun h9 => ?_)
  refine c_I (s := 18) hR8 (ce_bx hR8 hw rv3) rfl rfl (fun h10 => ?_)
  refine rf_ck (fun h11 => ?_)
  refine p_I (s := 19) hR8 (ce_bx hR8 hw rv3) rfl ⟨rfl, rfl, by decide⟩ (e_sub rfl rfl) h11 (fun g15 n13 hR14 => ?_)
  exact rf_ok (by exact hR14)
noncomputable def N_Box_innerWidth (v0 : Int) (n : NS) : Option (Int) :=
  ck (2 * (n 3 v0 8)) <|
  ck ((n 3 v0 4) - (2 * (n 3 v0 8))) <|
  some (max 0 ((n 3 v0 4) - (2 * (n 3 v0 8))))
theorem f_Box_innerWidth {w y : Prop} {g : g_S} {n : NS} {m : YS} (hw : w) {xv0 : Nat} {v0 : Int} (ev0 : xv0 = aBx v0) (rv0 : 0 ≤ v0 ∧ v0 ≤ 120) (hR : RC w y g n m) : Rf (fun a b => RI a b) (M_Box_innerWidth xv0 g) (N_Box_innerWidth v0 n) := by
  subst ev0
  unfold M_Box_innerWidth N_Box_innerWidth
  refine c_I (s := 4) hR (ce_bx hR hw rv0) rfl rfl (fun h1 => ?_)
  refine c_I (s := 8) hR (ce_bx hR hw rv0) rfl rfl (fun h2 => ?_)
  refine rf_ck (fun h3 => ?_)
  refine rf_ck (fun h4 => ?_)
  exact rf_ok (by exact ⟨(e_mx (e_n 0) (e_sub rfl (e_mul (e_n 2) rfl)) (show inR 0 by decide) h4), (max_r (show inR 0 by decide) h4)⟩)
noncomputable def nk_Layout_widthTold_49 (v3 : Int) (w0 : Int) (n : NS) : Option (Int) :=
  if 1000 < v3 then
    ck (v3 - 1000) <|
    ck (w0 * (v3 - 1000)) <|
    cd (w0 * (v3 - 1000)) 100 <|
    some ((w0 * (v3 - 1000)) / 100)
  else
    some v3
theorem fk_Layout_widthTold_49 {w y : Prop} {g : g_S} {n : NS} {m : YS} (hw : w) {xv3 : Int32} {v3 : Int} (ev3 : xv3 = Int32.ofInt v3) (rv3 : inR v3) {xw0 : Int32} {w0 : Int} (ew0 : xw0 = Int32.ofInt w0) (rw0 : inR w0) (hR : RC w y g n m) : Rf (fun a b => RI a b) (k_Layout_widthTold_49 xv3 xw0 g) (nk_Layout_widthTold_49 v3 w0 n) := by
  subst ev3
  subst ew0
  unfold k_Layout_widthTold_49 nk_Layout_widthTold_49
  refine rf_lt (e_n 1000) rfl (show inR 1000 by decide) rv3 ?_ ?_
  · refine rf_ck (fun h2 => ?_)
    refine rf_ck (fun h3 => ?_)
    refine rf_dv (e_mul rfl (e_sub rfl (e_n 1000))) (e_n 100) h3 (show inR 100 by decide) (fun h4 => ?_)
    exact rf_ok (by exact ⟨rfl, h4⟩)
  · exact rf_ok (by exact ⟨rfl, rv3⟩)
noncomputable def N_Layout_widthTold (v1 : Int) (v2 : Int) (n : NS) : Option (Int) :=
  (N_Layout_look v1 6 n).bind fun z2 =>
  if z2 = (-1) then
    some v2
  else
    ix v1 120 <|
    if (n 3 v1 1) = (-1) then
      nk_Layout_widthTold_49 z2 (n 5 0 3) n
    else
      ix (n 3 v1 1) 120 <|
      (N_Box_innerWidth (n 3 v1 1) n).bind fun z17 =>
      nk_Layout_widthTold_49 z2 z17 n
theorem f_Layout_widthTold {w y : Prop} {g : g_S} {n : NS} {m : YS} (hw : w) {xv1 : Int32} {v1 : Int} (ev1 : xv1 = Int32.ofInt v1) (rv1 : inR v1) {xv2 : Int32} {v2 : Int} (ev2 : xv2 = Int32.ofInt v2) (rv2 : inR v2) (hR : RC w y g n m) : Rf (fun a b => RI a b) (M_Layout_widthTold 1661 xv1 xv2 g) (N_Layout_widthTold v1 v2 n) := by
  subst ev1
  subst ev2
  unfold M_Layout_widthTold N_Layout_widthTold
  refine v_c (sK5 hR hw).1 ?_
  refine rf_bind (f_Layout_look hw rfl rv1 (e_n 6) (show inR 6 by decide) hR) (fun a4 z2 h => ?_)
  obtain ⟨rfl, r3⟩ := h
  refine rf_eq rfl (e_m 1) r3 (show inR (-1) by decide) ?_ ?_
  · exact rf_ok (by exact ⟨rfl, rv2⟩)
  · refine c_S hR hw (sK5 hR hw) (by decide) (show srf 5 0 2 = some 1662 from rfl) ?_
    refine s_S (p := aBx (_)) (L := 120) hR hw (sA42 hR hw) (by decide) (lA42 hR hw) rfl rfl rv1 (fun z1 z2 => srf42 z1 z2) (fun h8 => ?_)
    refine c_I (s := 1) hR (ce_bx hR hw (And.intro h8.1 (Int.le_of_lt h8.2))) rfl rfl (fun h10 => ?_)
    refine rf_eq rfl (e_m 1) h10 (show inR (-1) by decide) ?_ ?_
    · refine c_I (s := 3) hR (sK5 hR hw) rfl rfl (fun h12 => ?_)
      exact fk_Layout_widthTold_49 hw rfl r3 rfl h12 hR
    · refine c_S hR hw (sK5 hR hw) (by decide) (show srf 5 0 2 = some 1662 from rfl) ?_
      refine s_S (p := aBx (_)) (L := 120) hR hw (sA42 hR hw) (by decide) (lA42 hR hw) rfl rfl h10 (fun z1 z2 => srf42 z1 z2) (fun h14 => ?_)
      refine v_c (ce_bx hR hw (And.intro h14.1 (Int.le_of_lt h14.2))).1 ?_
      refine rf_bind (f_Box_innerWidth hw rfl (And.intro h14.1 (Int.le_of_lt h14.2)) hR) (fun a19 z17 h => ?_)
      obtain ⟨rfl, r18⟩ := h
      exact fk_Layout_widthTold_49 hw rfl r3 rfl r18 hR
noncomputable def nk_Layout_textWidth_145 (v1 : Int) (v2 : Int) (v4 : Int) (v5 : Int) (v6 : Int) (v7 : Int) (v8 : Int) (n : NS) : Option ((Int × Int × Int × NS) ⊕ (Int × Int × NS)) :=
  (N_Bytes_add 608 v8 n).bind fun n3 =>
  (N_Bytes_glyphWidth v8 n3).bind fun z7 =>
  ck (v4 + z7) <|
  ck (v7 + 1) <|
  some (.inl (0, v4 + z7, v7 + 1, n3))
theorem fk_Layout_textWidth_145 {w y : Prop} {g : g_S} {n : NS} {m : YS} (hw : w) {xv1 : Int32} {v1 : Int} (ev1 : xv1 = Int32.ofInt v1) (rv1 : inR v1) {xv2 : Int32} {v2 : Int} (ev2 : xv2 = Int32.ofInt v2) (rv2 : inR v2) {xv4 : Int32} {v4 : Int} (ev4 : xv4 = Int32.ofInt v4) (rv4 : inR v4) {xv5 : Int32} {v5 : Int} (ev5 : xv5 = Int32.ofInt v5) (rv5 : inR v5) {xv6 : Nat} {v6 : Int} (ev6 : xv6 = aNd v6) (rv6 : 0 ≤ v6 ∧ v6 ≤ 120) {xv7 : Int32} {v7 : Int} (ev7 : xv7 = Int32.ofInt v7) (rv7 : inR v7) {xv8 : Int32} {v8 : Int} (ev8 : xv8 = Int32.ofInt v8) (rv8 : inR v8) (hR : RC w y g n m) : Rf (RS (fun a b => RI a.1 b.1 ∧ RI a.2.1 b.2.1 ∧ RI a.2.2.1 b.2.2.1 ∧ RC w y a.2.2.2 b.2.2.2 m) (fun a b => RI a.1 b.1 ∧ RI a.2.1 b.2.1 ∧ RC w y a.2.2 b.2.2 m)) (k_Layout_textWidth_145 1661 xv1 xv2 xv4 xv5 xv6 xv7 xv8 g) (nk_Layout_textWidth_145 v1 v2 v4 v5 v6 v7 v8 n) := by
  subst ev1
  subst ev2
  subst ev4
  subst ev5
  subst ev6
  subst ev7
  subst ev8
  unfold k_Layout_textWidth_145 nk_Layout_textWidth_145
  refine c_S hR hw (sK5 hR hw) (by decide) (show srf 5 0 7 = some 1664 from rfl) ?_
  refine v_c (bS608 ▸ (ce_by hR hw (by decide))).1 ?_
  refine rf_bind (f_Bytes_add hw bS608.symm (by decide) rfl rv8 hR) (fun g5 n3 hR4 => ?_)
  refine rf_bind (f_Bytes_glyphWidth rfl rv8 hR4) (fun a9 z7 h => ?_)
  obtain ⟨rfl, r8⟩ := h
  refine rf_ck (fun h10 => ?_)
  refine rf_ck (fun h11 => ?_)
  exact rf_ok (by exact ⟨⟨(e_n 0), (show inR 0 by decide)⟩, ⟨(e_add rfl rfl), h10⟩, ⟨(e_add rfl (e_n 1)), h11⟩, hR4⟩)
noncomputable def nb_Layout_textWidth_66 (v1 : Int) (v2 : Int) (v5 : Int) (v6 : Int) (v3 : Int) (v4 : Int) (v7 : Int) (n : NS) : Option ((Int × Int × Int × NS) ⊕ (Int × Int × NS)) :=
  if (n 7 v6 0) = 17 then
    if v7 < (n 4 (5 * v6) 2) then
      nn (n 4 (5 * v6) 1) <|
      dx n (n 4 (5 * v6) 1) 1 v7 <|
      (N_Bytes_isBlank (n 99 (n 4 (5 * v6) 1) v7) n).bind fun z11 =>
      if z11 = 0 then
        if v3 = 0 then
          nk_Layout_textWidth_145 v1 v2 v4 v5 v6 v7 (n 99 (n 4 (5 * v6) 1) v7) n
        else
          (N_Bytes_add 608 32 n).bind fun n18 =>
          ck (v4 + 3) <|
          nk_Layout_textWidth_145 v1 v2 (v4 + 3) v5 v6 v7 (n 99 (n 4 (5 * v6) 1) v7) n18
      else
        if 0 < (n 4 608 2) then
          ck (v7 + 1) <|
          some (.inl (1, v4, v7 + 1, n))
        else
          ck (v7 + 1) <|
          some (.inl (0, v4, v7 + 1, n))
    else
      some (.inr (v3, v4, n))
  else
    some (.inr (v3, v4, n))
theorem fb_Layout_textWidth_66 {w y : Prop} {g : g_S} {n : NS} {m : YS} (hw : w) {xv1 : Int32} {v1 : Int} (ev1 : xv1 = Int32.ofInt v1) (rv1 : inR v1) {xv2 : Int32} {v2 : Int} (ev2 : xv2 = Int32.ofInt v2) (rv2 : inR v2) {xv5 : Int32} {v5 : Int} (ev5 : xv5 = Int32.ofInt v5) (rv5 : inR v5) {xv6 : Nat} {v6 : Int} (ev6 : xv6 = aNd v6) (rv6 : 0 ≤ v6 ∧ v6 ≤ 120) {xv3 : Int32} {v3 : Int} (ev3 : xv3 = Int32.ofInt v3) (rv3 : inR v3) {xv4 : Int32} {v4 : Int} (ev4 : xv4 = Int32.ofInt v4) (rv4 : inR v4) {xv7 : Int32} {v7 : Int} (ev7 : xv7 = Int32.ofInt v7) (rv7 : inR v7) (hR : RC w y g n m) : Rf (RS (fun a b => RI a.1 b.1 ∧ RI a.2.1 b.2.1 ∧ RI a.2.2.1 b.2.2.1 ∧ RC w y a.2.2.2 b.2.2.2 m) (fun a b => RI a.1 b.1 ∧ RI a.2.1 b.2.1 ∧ RC w y a.2.2 b.2.2 m)) (b_Layout_textWidth_66 1661 xv1 xv2 xv5 xv6 xv3 xv4 xv7 g) (nb_Layout_textWidth_66 v1 v2 v5 v6 v3 v4 v7 n) := by
  subst ev1
  subst ev2
  subst ev5
  subst ev6
  subst ev3
  subst ev4
  subst ev7
  unfold b_Layout_textWidth_66 nb_Layout_textWidth_66
  refine c_I (s := 0) hR (ce_nd hR hw rv6) rfl rfl (fun h1 => ?_)
  refine rf_eq rfl (e_n 17) h1 (show inR 17 by decide) ?_ ?_
  · refine c_S (p := _) hR hw (ce_nd hR hw rv6) (Nat.lt_trans (nd_lt rv6).1 (by decide)) rfl ?_
    refine c_I (s := 2) hR (ce_by hR hw (by5 rv6)) rfl rfl (fun h4 => ?_)
    refine rf_lt rfl rfl rv7 h4 ?_ ?_
    · refine c_S (p := _) hR hw (ce_nd hR hw rv6) (Nat.lt_trans (nd_lt rv6).1 (by decide)) rfl ?_
      refine c_D (s := 1) hR (ce_by hR hw (by5 rv6)) rfl rfl rfl (fun h7 => ?_)
      refine d_B hR h7 rfl rv7 (fun h8 h9 => ?_)
      refine rf_bind (f_Bytes_isBlank rfl (inB.r h9) hR) (fun a13 z11 h => ?_)
      obtain ⟨rfl, r12⟩ := h
      refine rf_eq rfl (e_n 0) (inZ.r r12) (show inR 0 by decide) ?_ ?_
      · refine rf_eq rfl (e_n 0) rv3 (show inR 0 by decide) ?_ ?_
        · exact fk_Layout_textWidth_145 hw rfl rv1 rfl rv2 rfl rv4 rfl rv5 rfl rv6 rfl rv7 rfl (inB.r h9) hR
        · refine c_S hR hw (sK5 hR hw) (by decide) (show srf 5 0 7 = some 1664 from rfl) ?_
          refine v_c (bS608 ▸ (ce_by hR hw (by decide))).1 ?_
          refine rf_bind (f_Bytes_add hw bS608.symm (by decide) (e_n 32) (show inR 32 by decide) hR) (fun g20 n18 hR19 => ?_)
          refine rf_ck (fun h21 => ?_)
          exact fk_Layout_textWidth_145 hw rfl rv1 rfl rv2 (e_add rfl (e_n 3)) h21 rfl rv5 rfl rv6 rfl rv7 rfl (inB.r h9) hR19
      · refine c_S hR hw (sK5 hR hw) (by decide) (show srf 5 0 7 = some 1664 from rfl) ?_
        refine c_I (s := 2) hR (bS608 ▸ (ce_by hR hw (by decide))) rfl rfl (fun h23 => ?_)
        refine rf_lt (e_n 0) rfl (show inR 0 by decide) h23 ?_ ?_
        · refine rf_ck (fun h25 => ?_)
          exact rf_ok (by exact ⟨⟨(e_n 1), (show inR 1 by decide)⟩, ⟨rfl, rv4⟩, ⟨(e_add rfl (e_n 1)), h25⟩, hR⟩)
        · refine rf_ck (fun h26 => ?_)
          exact rf_ok (by exact ⟨⟨(e_n 0), (show inR 0 by decide)⟩, ⟨rfl, rv4⟩, ⟨(e_add rfl (e_n 1)), h26⟩, hR⟩)
    · exact rf_ok (by exact ⟨⟨rfl, rv3⟩, ⟨rfl, rv4⟩, hR⟩)
  · exact rf_ok (by exact ⟨⟨rfl, rv3⟩, ⟨rfl, rv4⟩, hR⟩)
noncomputable def NL_Layout_textWidth_66 (v1 : Int) (v2 : Int) (v5 : Int) (v6 : Int) (v3 : Int) (v4 : Int) (v7 : Int) (n : NS) : Option (Int × Int × NS) :=
  it (fun s : Int × Int × Int × NS => nb_Layout_textWidth_66 v1 v2 v5 v6 s.1 s.2.1 s.2.2.1 s.2.2.2) (v3, v4, v7, n)
theorem fL_Layout_textWidth_66 {w y : Prop} {g : g_S} {n : NS} {m : YS} (hw : w) {xv1 : Int32} {v1 : Int} (ev1 : xv1 = Int32.ofInt v1) (rv1 : inR v1) {xv2 : Int32} {v2 : Int} (ev2 : xv2 = Int32.ofInt v2) (rv2 : inR v2) {xv5 : Int32} {v5 : Int} (ev5 : xv5 = Int32.ofInt v5) (rv5 : inR v5) {xv6 : Nat} {v6 : Int} (ev6 : xv6 = aNd v6) (rv6 : 0 ≤ v6 ∧ v6 ≤ 120) {xv3 : Int32} {v3 : Int} (ev3 : xv3 = Int32.ofInt v3) (rv3 : inR v3) {xv4 : Int32} {v4 : Int} (ev4 : xv4 = Int32.ofInt v4) (rv4 : inR v4) {xv7 : Int32} {v7 : Int} (ev7 : xv7 = Int32.ofInt v7) (rv7 : inR v7) (hR : RC w y g n m) : Rf (fun a b => RI a.1 b.1 ∧ RI a.2.1 b.2.1 ∧ RC w y a.2.2 b.2.2 m) (L_Layout_textWidth_66 1661 xv1 xv2 xv5 xv6 xv3 xv4 xv7 g) (NL_Layout_textWidth_66 v1 v2 v5 v6 v3 v4 v7 n) := by
  subst ev1
  subst ev2
  subst ev5
  subst ev6
  subst ev3
  subst ev4
  subst ev7
  unfold L_Layout_textWidth_66 NL_Layout_textWidth_66
  refine rf_it (I := (fun a b => RI a.1 b.1 ∧ RI a.2.1 b.2.1 ∧ RI a.2.2.1 b.2.2.1 ∧ RC w y a.2.2.2 b.2.2.2 m)) (fun s t h => ?_) ⟨⟨rfl, rv3⟩, ⟨rfl, rv4⟩, ⟨rfl, rv7⟩, hR⟩
  exact fb_Layout_textWidth_66 hw rfl rv1 rfl rv2 rfl rv5 rfl rv6 h.1.1 h.1.2 h.2.1.1 h.2.1.2 h.2.2.1.1 h.2.2.1.2 h.2.2.2
theorem NL_Layout_textWidth_66_eq (v1 : Int) (v2 : Int) (v5 : Int) (v6 : Int) (v3 : Int) (v4 : Int) (v7 : Int) (n : NS) : NL_Layout_textWidth_66 v1 v2 v5 v6 v3 v4 v7 n = itc (nb_Layout_textWidth_66 v1 v2 v5 v6 v3 v4 v7 n) (fun s => NL_Layout_textWidth_66 v1 v2 v5 v6 s.1 s.2.1 s.2.2.1 s.2.2.2) := it_eq2 (fun s : Int × Int × Int × NS => nb_Layout_textWidth_66 v1 v2 v5 v6 s.1 s.2.1 s.2.2.1 s.2.2.2) (v3, v4, v7, n)
noncomputable def nb_Layout_textWidth_26 (v1 : Int) (v2 : Int) (v3 : Int) (v4 : Int) (v5 : Int) (n : NS) : Option ((Int × Int × Int × NS) ⊕ (Int × NS)) :=
  ix v1 120 <|
  if v5 < (n 7 v1 9) then
    ix v5 120 <|
    ix (n 22 0 v5) 120 <|
    (NL_Layout_textWidth_66 v1 v2 v5 (n 22 0 v5) v3 v4 0 n).bind <| u3 fun z15 z16 n17 =>
    ck (v5 + 1) <|
    some (.inl (z15, z16, v5 + 1, n17))
  else
    some (.inr (v4, n))
theorem fb_Layout_textWidth_26 {w y : Prop} {g : g_S} {n : NS} {m : YS} (hw : w) {xv1 : Int32} {v1 : Int} (ev1 : xv1 = Int32.ofInt v1) (rv1 : inR v1) {xv2 : Int32} {v2 : Int} (ev2 : xv2 = Int32.ofInt v2) (rv2 : inR v2) {xv3 : Int32} {v3 : Int} (ev3 : xv3 = Int32.ofInt v3) (rv3 : inR v3) {xv4 : Int32} {v4 : Int} (ev4 : xv4 = Int32.ofInt v4) (rv4 : inR v4) {xv5 : Int32} {v5 : Int} (ev5 : xv5 = Int32.ofInt v5) (rv5 : inR v5) (hR : RC w y g n m) : Rf (RS (fun a b => RI a.1 b.1 ∧ RI a.2.1 b.2.1 ∧ RI a.2.2.1 b.2.2.1 ∧ RC w y a.2.2.2 b.2.2.2 m) (fun a b => RI a.1 b.1 ∧ RC w y a.2 b.2 m)) (b_Layout_textWidth_26 1661 xv1 xv2 xv3 xv4 xv5 g) (nb_Layout_textWidth_26 v1 v2 v3 v4 v5 n) := by
  subst ev1
  subst ev2
  subst ev3
  subst ev4
  subst ev5
  unfold b_Layout_textWidth_26 nb_Layout_textWidth_26
  refine c_S hR hw (sK5 hR hw) (by decide) (show srf 5 0 0 = some 5 from rfl) ?_
  refine c_S hR hw (sK10 hR hw) (by decide) (show srf 10 0 0 = some 6 from rfl) ?_
  refine s_S (p := aNd (_)) (L := 120) hR hw (sA20 hR hw) (by decide) (lA20 hR hw) rfl rfl rv1 (fun z1 z2 => srf20 z1 z2) (fun h3 => ?_)
  refine c_I (s := 9) hR (ce_nd hR hw (And.intro h3.1 (Int.le_of_lt h3.2))) rfl rfl (fun h5 => ?_)
  refine rf_lt rfl rfl rv5 h5 ?_ ?_
  · refine c_S hR hw (sK5 hR hw) (by decide) (show srf 5 0 0 = some 5 from rfl) ?_
    refine c_S hR hw (sK10 hR hw) (by decide) (show srf 10 0 0 = some 6 from rfl) ?_
    refine c_S hR hw (sK5 hR hw) (by decide) (show srf 5 0 0 = some 5 from rfl) ?_
    refine c_S hR hw (sK10 hR hw) (by decide) (show srf 10 0 2 = some 8 from rfl) ?_
    refine s_I (L := 120) hR (sA22 hR hw) rfl (lA22 hR hw) rfl rfl rv5 (fun h11 h12 => ?_)
    refine s_S (p := aNd (_)) (L := 120) hR hw (sA20 hR hw) (by decide) (lA20 hR hw) rfl rfl h12 (fun z1 z2 => srf20 z1 z2) (fun h13 => ?_)
    refine rf_bind (fL_Layout_textWidth_66 hw rfl rv1 rfl rv2 rfl rv5 rfl (And.intro h13.1 (Int.le_of_lt h13.2)) rfl rv3 rfl rv4 (e_n 0) (show inR 0 by decide) hR) (fun a b h => ?_)
    obtain ⟨a18, a19, a20⟩ := a
    obtain ⟨z15, z16, n17⟩ := b
    refine rf_u3 ?_
    obtain ⟨rfl, r22⟩ := (show RI a18 z15 from h.1)
    obtain ⟨rfl, r23⟩ := (show RI a19 z16 from h.2.1)
    have hR21 : RC w y a20 n17 m := h.2.2
    refine rf_ck (fun h24 => ?_)
    exact rf_ok (by exact ⟨⟨rfl, r22⟩, ⟨rfl, r23⟩, ⟨(e_add rfl (e_n 1)), h24⟩, hR21⟩)
  · exact rf_ok (by exact ⟨⟨rfl, rv4⟩, hR⟩)
noncomputable def NL_Layout_textWidth_26 (v1 : Int) (v2 : Int) (v3 : Int) (v4 : Int) (v5 : Int) (n : NS) : Option (Int × NS) :=
  it (fun s : Int × Int × Int × NS => nb_Layout_textWidth_26 v1 v2 s.1 s.2.1 s.2.2.1 s.2.2.2) (v3, v4, v5, n)
theorem fL_Layout_textWidth_26 {w y : Prop} {g : g_S} {n : NS} {m : YS} (hw : w) {xv1 : Int32} {v1 : Int} (ev1 : xv1 = Int32.ofInt v1) (rv1 : inR v1) {xv2 : Int32} {v2 : Int} (ev2 : xv2 = Int32.ofInt v2) (rv2 : inR v2) {xv3 : Int32} {v3 : Int} (ev3 : xv3 = Int32.ofInt v3) (rv3 : inR v3) {xv4 : Int32} {v4 : Int} (ev4 : xv4 = Int32.ofInt v4) (rv4 : inR v4) {xv5 : Int32} {v5 : Int} (ev5 : xv5 = Int32.ofInt v5) (rv5 : inR v5) (hR : RC w y g n m) : Rf (fun a b => RI a.1 b.1 ∧ RC w y a.2 b.2 m) (L_Layout_textWidth_26 1661 xv1 xv2 xv3 xv4 xv5 g) (NL_Layout_textWidth_26 v1 v2 v3 v4 v5 n) := by
  subst ev1
  subst ev2
  subst ev3
  subst ev4
  subst ev5
  unfold L_Layout_textWidth_26 NL_Layout_textWidth_26
  refine rf_it (I := (fun a b => RI a.1 b.1 ∧ RI a.2.1 b.2.1 ∧ RI a.2.2.1 b.2.2.1 ∧ RC w y a.2.2.2 b.2.2.2 m)) (fun s t h => ?_) ⟨⟨rfl, rv3⟩, ⟨rfl, rv4⟩, ⟨rfl, rv5⟩, hR⟩
  exact fb_Layout_textWidth_26 hw rfl rv1 rfl rv2 h.1.1 h.1.2 h.2.1.1 h.2.1.2 h.2.2.1.1 h.2.2.1.2 h.2.2.2
theorem NL_Layout_textWidth_26_eq (v1 : Int) (v2 : Int) (v3 : Int) (v4 : Int) (v5 : Int) (n : NS) : NL_Layout_textWidth_26 v1 v2 v3 v4 v5 n = itc (nb_Layout_textWidth_26 v1 v2 v3 v4 v5 n) (fun s => NL_Layout_textWidth_26 v1 v2 s.1 s.2.1 s.2.2.1 s.2.2.2) := it_eq2 (fun s : Int × Int × Int × NS => nb_Layout_textWidth_26 v1 v2 s.1 s.2.1 s.2.2.1 s.2.2.2) (v3, v4, v5, n)
noncomputable def N_Layout_textWidth (v1 : Int) (v2 : Int) (n : NS) : Option (Int × NS) :=
  (N_Bytes_clear 608 n).bind fun n3 =>
  ix v1 120 <|
  (NL_Layout_textWidth_26 v1 v2 0 0 (n3 7 v1 8) n3).bind <| u2 fun z11 n12 =>
  ck (z11 * v2) <|
  some (z11 * v2, n12)
theorem f_Layout_textWidth {w y : Prop} {g : g_S} {n : NS} {m : YS} (hw : w) {xv1 : Int32} {v1 : Int} (ev1 : xv1 = Int32.ofInt v1) (rv1 : inR v1) {xv2 : Int32} {v2 : Int} (ev2 : xv2 = Int32.ofInt v2) (rv2 : inR v2) (hR : RC w y g n m) : Rf (fun a b => RI a.1 b.1 ∧ RC w y a.2 b.2 m) (M_Layout_textWidth 1661 xv1 xv2 g) (N_Layout_textWidth v1 v2 n) := by
  subst ev1
  subst ev2
  unfold M_Layout_textWidth N_Layout_textWidth
  refine c_S hR hw (sK5 hR hw) (by decide) (show srf 5 0 7 = some 1664 from rfl) ?_
  refine v_c (bS608 ▸ (ce_by hR hw (by decide))).1 ?_
  refine rf_bind (f_Bytes_clear hw bS608.symm (by decide) hR) (fun g5 n3 hR4 => ?_)
  refine c_S hR4 hw (sK5 hR4 hw) (by decide) (show srf 5 0 0 = some 5 from rfl) ?_
  refine c_S hR4 hw (sK10 hR4 hw) (by decide) (show srf 10 0 0 = some 6 from rfl) ?_
  refine s_S (p := aNd (_)) (L := 120) hR4 hw (sA20 hR4 hw) (by decide) (lA20 hR4 hw) rfl rfl rv1 (fun z1 z2 => srf20 z1 z2) (fun h8 => ?_)
  refine c_I (s := 8) hR4 (ce_nd hR4 hw (And.intro h8.1 (Int.le_of_lt h8.2))) rfl rfl (fun h10 => ?_)
  refine rf_bind (fL_Layout_textWidth_26 hw rfl rv1 rfl rv2 (e_n 0) (show inR 0 by decide) (e_n 0) (show inR 0 by decide) rfl h10 hR4) (fun a b h => ?_)
  obtain ⟨a13, a14⟩ := a
  obtain ⟨z11, n12⟩ := b
  refine rf_u2 ?_
  obtain ⟨rfl, r16⟩ := (show RI a13 z11 from h.1)
  have hR15 : RC w y a14 n12 m := h.2
  refine rf_ck (fun h17 => ?_)
  exact rf_ok (by exact ⟨⟨(e_mul rfl rfl), h17⟩, hR15⟩)
noncomputable def nk_Layout_measurePiece_50 (w0 : Int) (w1 : Int) (n : NS) : Option (NS) :=
  st (nw n 3 w1 5 w0) fun n2 =>
  some n2
theorem fk_Layout_measurePiece_50 {w y : Prop} {g : g_S} {n : NS} {m : YS} (hw : w) {xw0 : Int32} {w0 : Int} (ew0 : xw0 = Int32.ofInt w0) (rw0 : inR w0) {xw1 : Nat} {w1 : Int} (ew1 : xw1 = aBx w1) (rw1 : 0 ≤ w1 ∧ w1 ≤ 120) (hR : RC w y g n m) : Rf (fun a b => RC w y a b m) (k_Layout_measurePiece_50 xw0 xw1 g) (nk_Layout_measurePiece_50 w0 w1 n) := by
  subst ew0
  subst ew1
  unfold k_Layout_measurePiece_50 nk_Layout_measurePiece_50
  refine p_I (s := 5) hR (ce_bx hR hw rw1) rfl ⟨rfl, rfl, by decide⟩ rfl rw0 (fun g4 n2 hR3 => ?_)
  exact rf_ok (by exact hR3)
noncomputable def N_Layout_measurePiece (v1 : Int) (v2 : Int) (v3 : Int) (n : NS) : Option (NS) :=
  ck (7 * (n 3 v3 11)) <|
  if v2 = 12 then
    (N_Layout_widthTold v1 8 n).bind fun z5 =>
    st (nw n 3 v3 4 z5) fun n9 =>
    (N_Layout_look v1 7 n9).bind fun z13 =>
    if z13 = (-1) then
      nk_Layout_measurePiece_50 8 v3 n9
    else
      (N_Layout_look v1 7 n9).bind fun z18 =>
      nk_Layout_measurePiece_50 z18 v3 n9
  else
    if v2 = 13 then
      (N_Layout_widthTold v1 24 n).bind fun z23 =>
      st (nw n 3 v3 4 z23) fun n27 =>
      ck ((7 * (n 3 v3 11)) + 4) <|
      st (nw n27 3 v3 5 ((7 * (n 3 v3 11)) + 4)) fun n32 =>
      some n32
    else
      (N_Layout_textWidth v1 (n 3 v3 11) n).bind <| u2 fun z38 n41 =>
      ck (2 * (n41 3 v3 8)) <|
      ck (z38 + (2 * (n41 3 v3 8))) <|
      st (nw n41 3 v3 4 (z38 + (2 * (n41 3 v3 8)))) fun n48 =>
      ck (2 * (n48 3 v3 8)) <|
      ck ((7 * (n 3 v3 11)) + (2 * (n48 3 v3 8))) <|
      st (nw n48 3 v3 5 ((7 * (n 3 v3 11)) + (2 * (n48 3 v3 8)))) fun n55 =>
      some n55
theorem f_Layout_measurePiece {w y : Prop} {g : g_S} {n : NS} {m : YS} (hw : w) {xv1 : Int32} {v1 : Int} (ev1 : xv1 = Int32.ofInt v1) (rv1 : inR v1) {xv2 : Int32} {v2 : Int} (ev2 : xv2 = Int32.ofInt v2) (rv2 : inR v2) {xv3 : Nat} {v3 : Int} (ev3 : xv3 = aBx v3) (rv3 : 0 ≤ v3 ∧ v3 ≤ 120) (hR : RC w y g n m) : Rf (fun a b => RC w y a b m) (M_Layout_measurePiece 1661 xv1 xv2 xv3 g) (N_Layout_measurePiece v1 v2 v3 n) := by
  subst ev1
  subst ev2
  subst ev3
  unfold M_Layout_measurePiece N_Layout_measurePiece
  refine c_I (s := 11) hR (ce_bx hR hw rv3) rfl rfl (fun h1 => ?_)
  refine rf_ck (fun h2 => ?_)
  refine rf_eq rfl (e_n 12) rv2 (show inR 12 by decide) ?_ ?_
  · refine v_c (sK5 hR hw).1 ?_
    refine rf_bind (f_Layout_widthTold hw rfl rv1 (e_n 8) (show inR 8 by decide) hR) (fun a7 z5 h => ?_)
    obtain ⟨rfl, r6⟩ := h
    refine p_I (s := 4) hR (ce_bx hR hw rv3) rfl ⟨rfl, rfl, by decide⟩ rfl r6 (fun g11 n9 hR10 => ?_)
    refine v_c (sK5 hR10 hw).1 ?_
    refine rf_bind (f_Layout_look hw rfl rv1 (e_n 7) (show inR 7 by decide) hR10) (fun a15 z13 h => ?_)
    obtain ⟨rfl, r14⟩ := h
    refine rf_eq rfl (e_m 1) r14 (show inR (-1) by decide) ?_ ?_
    · exact fk_Layout_measurePiece_50 hw (e_n 8) (show inR 8 by decide) rfl rv3 hR10
    · refine v_c (sK5 hR10 hw).1 ?_
      refine rf_bind (f_Layout_look hw rfl rv1 (e_n 7) (show inR 7 by decide) hR10) (fun a20 z18 h => ?_)
      obtain ⟨rfl, r19⟩ := h
      exact fk_Layout_measurePiece_50 hw rfl r19 rfl rv3 hR10
  · refine rf_eq rfl (e_n 13) rv2 (show inR 13 by decide) ?_ ?_
    · refine v_c (sK5 hR hw).1 ?_
      refine rf_bind (f_Layout_widthTold hw rfl rv1 (e_n 24) (show inR 24 by decide) hR) (fun a25 z23 h => ?_)
      obtain ⟨rfl, r24⟩ := h
      refine p_I (s := 4) hR (ce_bx hR hw rv3) rfl ⟨rfl, rfl, by decide⟩ rfl r24 (fun g29 n27 hR28 => ?_)
      refine rf_ck (fun h30 => ?_)
      refine p_I (s := 5) hR28 (ce_bx hR28 hw rv3) rfl ⟨rfl, rfl, by decide⟩ (e_add (e_mul (e_n 7) rfl) (e_n 4)) h30 (fun g34 n32 hR33 => ?_)
      exact rf_ok (by exact hR33)
    · refine c_I (s := 11) hR (ce_bx hR hw rv3) rfl rfl (fun h36 => ?_)
      refine v_c2 (sK5 hR hw).1 ?_
      refine rf_c2 (f_Layout_textWidth hw rfl rv1 rfl h36 hR) (fun a40 g43 b h => ?_)
      obtain ⟨z38, n41⟩ := b
      refine rf_v2 ?_
      obtain ⟨rfl, r39⟩ := (show RI a40 z38 from h.1)
      have hR42 : RC w y g43 n41 m := h.2
      refine c_I (s := 8) hR42 (ce_bx hR42 hw rv3) rfl rfl (fun h44 => ?_)
      refine rf_ck (fun h45 => ?_)
      refine rf_ck (fun h46 => ?_)
      refine p_I (s := 4) hR42 (ce_bx hR42 hw rv3) rfl ⟨rfl, rfl, by decide⟩ (e_add rfl (e_mul (e_n 2) rfl)) h46 (fun g50 n48 hR49 => ?_)
      refine c_I (s := 8) hR49 (ce_bx hR49 hw rv3) rfl rfl (fun h51 => ?_)
      refine rf_ck (fun h52 => ?_)
      refine rf_ck (fun h53 => ?_)
      refine p_I (s := 5) hR49 (ce_bx hR49 hw rv3) rfl ⟨rfl, rfl, by decide⟩ (e_add (e_mul (e_n 7) rfl) (e_mul (e_n 2) rfl)) h53 (fun g57 n55 hR56 => ?_)
      exact rf_ok (by exact hR56)
noncomputable def nk_Layout_measureBlock_119 (v1 : Int) (v2 : Int) (v5 : Int) (n : NS) : Option (NS) :=
  (N_Layout_widthTold v1 v5 n).bind fun z2 =>
  ck (2 * (n 3 v2 8)) <|
  st (nw n 3 v2 4 (max z2 (2 * (n 3 v2 8)))) fun n9 =>
  some n9
theorem fk_Layout_measureBlock_119 {w y : Prop} {g : g_S} {n : NS} {m : YS} (hw : w) {xv1 : Int32} {v1 : Int} (ev1 : xv1 = Int32.ofInt v1) (rv1 : inR v1) {xv2 : Nat} {v2 : Int} (ev2 : xv2 = aBx v2) (rv2 : 0 ≤ v2 ∧ v2 ≤ 120) {xv5 : Int32} {v5 : Int} (ev5 : xv5 = Int32.ofInt v5) (rv5 : inR v5) (hR : RC w y g n m) : Rf (fun a b => RC w y a b m) (k_Layout_measureBlock_119 1661 xv1 xv2 xv5 g) (nk_Layout_measureBlock_119 v1 v2 v5 n) := by
  subst ev1
  subst ev2
  subst ev5
  unfold k_Layout_measureBlock_119 nk_Layout_measureBlock_119
  refine v_c (sK5 hR hw).1 ?_
  refine rf_bind (f_Layout_widthTold hw rfl rv1 rfl rv5 hR) (fun a4 z2 h => ?_)
  obtain ⟨rfl, r3⟩ := h
  refine c_I (s := 8) hR (ce_bx hR hw rv2) rfl rfl (fun h5 => ?_)
  refine rf_ck (fun h6 => ?_)
  refine p_I (s := 4) hR (ce_bx hR hw rv2) rfl ⟨rfl, rfl, by decide⟩ (e_mx rfl (e_mul (e_n 2) rfl) r3 h6) (max_r r3 h6) (fun g11 n9 hR10 => ?_)
  exact rf_ok (by exact hR10)
noncomputable def nk_Layout_measureBlock_47 (v1 : Int) (v2 : Int) (v3 : Int) (v4 : Int) (w0 : Int) (w1 : Int) (n : NS) : Option (NS) :=
  st (nw n 3 w1 13 w0) fun n2 =>
  (N_Box_innerWidth v3 n2).bind fun z6 =>
  ck (2 * (n2 3 v2 6)) <|
  ck (z6 - (2 * (n2 3 v2 6))) <|
  if v4 = 0 then
    if (n2 3 v2 13) = 0 then
      nk_Layout_measureBlock_119 v1 v2 (z6 - (2 * (n2 3 v2 6))) n2
    else
      (N_Layout_textWidth v1 (n2 3 v2 11) n2).bind <| u2 fun z17 n20 =>
      ck (2 * (n20 3 v2 8)) <|
      ck (z17 + (2 * (n20 3 v2 8))) <|
      nk_Layout_measureBlock_119 v1 v2 (min (z6 - (2 * (n2 3 v2 6))) (z17 + (2 * (n20 3 v2 8)))) n20
  else
    (N_Layout_textWidth v1 (n2 3 v2 11) n2).bind <| u2 fun z29 n32 =>
    ck (2 * (n32 3 v2 8)) <|
    ck (z29 + (2 * (n32 3 v2 8))) <|
    nk_Layout_measureBlock_119 v1 v2 (z29 + (2 * (n32 3 v2 8))) n32
theorem fk_Layout_measureBlock_47 {w y : Prop} {g : g_S} {n : NS} {m : YS} (hw : w) {xv1 : Int32} {v1 : Int} (ev1 : xv1 = Int32.ofInt v1) (rv1 : inR v1) {xv2 : Nat} {v2 : Int} (ev2 : xv2 = aBx v2) (rv2 : 0 ≤ v2 ∧ v2 ≤ 120) {xv3 : Nat} {v3 : Int} (ev3 : xv3 = aBx v3) (rv3 : 0 ≤ v3 ∧ v3 ≤ 120) {xv4 : Int32} {v4 : Int} (ev4 : xv4 = Int32.ofInt v4) (rv4 : inR v4) {xw0 : Int32} {w0 : Int} (ew0 : xw0 = Int32.ofInt w0) (rw0 : inR w0) {xw1 : Nat} {w1 : Int} (ew1 : xw1 = aBx w1) (rw1 : 0 ≤ w1 ∧ w1 ≤ 120) (hR : RC w y g n m) : Rf (fun a b => RC w y a b m) (k_Layout_measureBlock_47 1661 xv1 xv2 xv3 xv4 xw0 xw1 g) (nk_Layout_measureBlock_47 v1 v2 v3 v4 w0 w1 n) := by
  subst ev1
  subst ev2
  subst ev3
  subst ev4
  subst ew0
  subst ew1
  unfold k_Layout_measureBlock_47 nk_Layout_measureBlock_47
  refine p_I (s := 13) hR (ce_bx hR hw rw1) rfl ⟨rfl, rfl, by decide⟩ rfl rw0 (fun g4 n2 hR3 => ?_)
  refine v_c (ce_bx hR3 hw rv3).1 ?_
  refine rf_bind (f_Box_innerWidth hw rfl rv3 hR3) (fun a8 z6 h => ?_)
  obtain ⟨rfl, r7⟩ := h
  refine c_I (s := 6) hR3 (ce_bx hR3 hw rv2) rfl rfl (fun h9 => ?_)
  refine rf_ck (fun h10 => ?_)
  refine rf_ck (fun h11 => ?_)
  refine rf_eq rfl (e_n 0) rv4 (show inR 0 by decide) ?_ ?_
  · refine c_I (s := 13) hR3 (ce_bx hR3 hw rv2) rfl rfl (fun h13 => ?_)
    refine rf_eq rfl (e_n 0) h13 (show inR 0 by decide) ?_ ?_
    · exact fk_Layout_measureBlock_119 hw rfl rv1 rfl rv2 (e_sub rfl (e_mul (e_n 2) rfl)) h11 hR3
    · refine c_I (s := 11) hR3 (ce_bx hR3 hw rv2) rfl rfl (fun h15 => ?_)
      refine v_c2 (sK5 hR3 hw).1 ?_
      refine rf_c2 (f_Layout_textWidth hw rfl rv1 rfl h15 hR3) (fun a19 g22 b h => ?_)
      obtain ⟨z17, n20⟩ := b
      refine rf_v2 ?_
      obtain ⟨rfl, r18⟩ := (show RI a19 z17 from h.1)
      have hR21 : RC w y g22 n20 m := h.2
      refine c_I (s := 8) hR21 (ce_bx hR21 hw rv2) rfl rfl (fun h23 => ?_)
      refine rf_ck (fun h24 => ?_)
      refine rf_ck (fun h25 => ?_)
      exact fk_Layout_measureBlock_119 hw rfl rv1 rfl rv2 (e_mn (e_sub rfl (e_mul (e_n 2) rfl)) (e_add rfl (e_mul (e_n 2) rfl)) h11 h25) (min_r h11 h25) hR21
  · refine c_I (s := 11) hR3 (ce_bx hR3 hw rv2) rfl rfl (fun h27 => ?_)
    refine v_c2 (sK5 hR3 hw).1 ?_
    refine rf_c2 (f_Layout_textWidth hw rfl rv1 rfl h27 hR3) (fun a31 g34 b h => ?_)
    obtain ⟨z29, n32⟩ := b
    refine rf_v2 ?_
    obtain ⟨rfl, r30⟩ := (show RI a31 z29 from h.1)
    have hR33 : RC w y g34 n32 m := h.2
    refine c_I (s := 8) hR33 (ce_bx hR33 hw rv2) rfl rfl (fun h35 => ?_)
    refine rf_ck (fun h36 => ?_)
    refine rf_ck (fun h37 => ?_)
    exact fk_Layout_measureBlock_119 hw rfl rv1 rfl rv2 (e_add rfl (e_mul (e_n 2) rfl)) h37 hR33
noncomputable def nk_Layout_measureBlock_28 (v1 : Int) (v2 : Int) (v3 : Int) (w0 : Int) (n : NS) : Option (NS) :=
  if w0 = 0 then
    (N_Layout_look v1 10 n).bind fun z3 =>
    nk_Layout_measureBlock_47 v1 v2 v3 w0 z3 v2 n
  else
    nk_Layout_measureBlock_47 v1 v2 v3 w0 0 v2 n
theorem fk_Layout_measureBlock_28 {w y : Prop} {g : g_S} {n : NS} {m : YS} (hw : w) {xv1 : Int32} {v1 : Int} (ev1 : xv1 = Int32.ofInt v1) (rv1 : inR v1) {xv2 : Nat} {v2 : Int} (ev2 : xv2 = aBx v2) (rv2 : 0 ≤ v2 ∧ v2 ≤ 120) {xv3 : Nat} {v3 : Int} (ev3 : xv3 = aBx v3) (rv3 : 0 ≤ v3 ∧ v3 ≤ 120) {xw0 : Int32} {w0 : Int} (ew0 : xw0 = Int32.ofInt w0) (rw0 : inR w0) (hR : RC w y g n m) : Rf (fun a b => RC w y a b m) (k_Layout_measureBlock_28 1661 xv1 xv2 xv3 xw0 g) (nk_Layout_measureBlock_28 v1 v2 v3 w0 n) := by
  subst ev1
  subst ev2
  subst ev3
  subst ew0
  unfold k_Layout_measureBlock_28 nk_Layout_measureBlock_28
  refine rf_eq rfl (e_n 0) rw0 (show inR 0 by decide) ?_ ?_
  · refine v_c (sK5 hR hw).1 ?_
    refine rf_bind (f_Layout_look hw rfl rv1 (e_n 10) (show inR 10 by decide) hR) (fun a5 z3 h => ?_)
    obtain ⟨rfl, r4⟩ := h
    exact fk_Layout_measureBlock_47 hw rfl rv1 rfl rv2 rfl rv3 rfl rw0 rfl r4 rfl rv2 hR
  · exact fk_Layout_measureBlock_47 hw rfl rv1 rfl rv2 rfl rv3 rfl rw0 (e_n 0) (show inR 0 by decide) rfl rv2 hR
noncomputable def N_Layout_measureBlock (v1 : Int) (v2 : Int) (n : NS) : Option (NS) :=
  ix (n 3 v2 1) 120 <|
  (N_Layout_look (n 3 v2 1) 0 n).bind fun z7 =>
  if z7 = 3 then
    nk_Layout_measureBlock_28 v1 v2 (n 3 v2 1) 1 n
  else
    nk_Layout_measureBlock_28 v1 v2 (n 3 v2 1) 0 n
theorem f_Layout_measureBlock {w y : Prop} {g : g_S} {n : NS} {m : YS} (hw : w) {xv1 : Int32} {v1 : Int} (ev1 : xv1 = Int32.ofInt v1) (rv1 : inR v1) {xv2 : Nat} {v2 : Int} (ev2 : xv2 = aBx v2) (rv2 : 0 ≤ v2 ∧ v2 ≤ 120) (hR : RC w y g n m) : Rf (fun a b => RC w y a b m) (M_Layout_measureBlock 1661 xv1 xv2 g) (N_Layout_measureBlock v1 v2 n) := by
  subst ev1
  subst ev2
  unfold M_Layout_measureBlock N_Layout_measureBlock
  refine c_S hR hw (sK5 hR hw) (by decide) (show srf 5 0 2 = some 1662 from rfl) ?_
  refine c_I (s := 1) hR (ce_bx hR hw rv2) rfl rfl (fun h2 => ?_)
  refine s_S (p := aBx (_)) (L := 120) hR hw (sA42 hR hw) (by decide) (lA42 hR hw) rfl rfl h2 (fun z1 z2 => srf42 z1 z2) (fun h3 => ?_)
  refine c_I (s := 1) hR (ce_bx hR hw rv2) rfl rfl (fun h5 => ?_)
  refine v_c (sK5 hR hw).1 ?_
  refine rf_bind (f_Layout_look hw rfl h5 (e_n 0) (show inR 0 by decide) hR) (fun a9 z7 h => ?_)
  obtain ⟨rfl, r8⟩ := h
  refine rf_eq rfl (e_n 3) r8 (show inR 3 by decide) ?_ ?_
  · exact fk_Layout_measureBlock_28 hw rfl rv1 rfl rv2 rfl (And.intro h3.1 (Int.le_of_lt h3.2)) (e_n 1) (show inR 1 by decide) hR
  · exact fk_Layout_measureBlock_28 hw rfl rv1 rfl rv2 rfl (And.intro h3.1 (Int.le_of_lt h3.2)) (e_n 0) (show inR 0 by decide) hR
noncomputable def nk_Layout_measure_212 (v1 : Int) (v2 : Int) (v3 : Int) (w0 : Int) (w1 : Int) (n : NS) : Option (NS) :=
  st (nw n 3 w1 1 w0) fun n2 =>
  if (n2 7 v2 0) = 17 then
    (N_Layout_listWords v1 (5 * v2) v3 n2).bind fun n9 =>
    some n9
  else
    if (n2 3 v3 0) = 2 then
      (N_Layout_measurePiece v1 (n2 7 v2 0) v3 n2).bind fun n17 =>
      some n17
    else
      if (n2 3 v3 0) = 1 then
        (N_Layout_measureBlock v1 v3 n2).bind fun n24 =>
        some n24
      else
        some n2
theorem fk_Layout_measure_212 {w y : Prop} {g : g_S} {n : NS} {m : YS} (hw : w) {xv1 : Int32} {v1 : Int} (ev1 : xv1 = Int32.ofInt v1) (rv1 : inR v1) {xv2 : Nat} {v2 : Int} (ev2 : xv2 = aNd v2) (rv2 : 0 ≤ v2 ∧ v2 ≤ 120) {xv3 : Nat} {v3 : Int} (ev3 : xv3 = aBx v3) (rv3 : 0 ≤ v3 ∧ v3 ≤ 120) {xw0 : Int32} {w0 : Int} (ew0 : xw0 = Int32.ofInt w0) (rw0 : inR w0) {xw1 : Nat} {w1 : Int} (ew1 : xw1 = aBx w1) (rw1 : 0 ≤ w1 ∧ w1 ≤ 120) (hR : RC w y g n m) : Rf (fun a b => RC w y a b m) (k_Layout_measure_212 1661 xv1 xv2 xv3 xw0 xw1 g) (nk_Layout_measure_212 v1 v2 v3 w0 w1 n) := by
  subst ev1
  subst ev2
  subst ev3
  subst ew0
  subst ew1
  unfold k_Layout_measure_212 nk_Layout_measure_212
  refine p_I (s := 1) hR (ce_bx hR hw rw1) rfl ⟨rfl, rfl, by decide⟩ rfl rw0 (fun g4 n2 hR3 => ?_)
  refine c_I (s := 0) hR3 (ce_nd hR3 hw rv2) rfl rfl (fun h5 => ?_)
  refine rf_eq rfl (e_n 17) h5 (show inR 17 by decide) ?_ ?_
  · refine c_S (p := _) hR3 hw (ce_nd hR3 hw rv2) (Nat.lt_trans (nd_lt rv2).1 (by decide)) rfl ?_
    refine v_c (sK5 hR3 hw).1 ?_
    refine rf_bind (f_Layout_listWords hw rfl rv1 rfl (by5 rv2) rfl rv3 hR3) (fun g11 n9 hR10 => ?_)
    exact rf_ok (by exact hR10)
  · refine c_I (s := 0) hR3 (ce_bx hR3 hw rv3) rfl rfl (fun h13 => ?_)
    refine rf_eq rfl (e_n 2) h13 (show inR 2 by decide) ?_ ?_
    · refine c_I (s := 0) hR3 (ce_nd hR3 hw rv2) rfl rfl (fun h15 => ?_)
      refine v_c (sK5 hR3 hw).1 ?_
      refine rf_bind (f_Layout_measurePiece hw rfl rv1 rfl h15 rfl rv3 hR3) (fun g19 n17 hR18 => ?_)
      exact rf_ok (by exact hR18)
    · refine c_I (s := 0) hR3 (ce_bx hR3 hw rv3) rfl rfl (fun h21 => ?_)
      refine rf_eq rfl (e_n 1) h21 (show inR 1 by decide) ?_ ?_
      · refine v_c (sK5 hR3 hw).1 ?_
        refine rf_bind (f_Layout_measureBlock hw rfl rv1 rfl rv3 hR3) (fun g26 n24 hR25 => ?_)
        exact rf_ok (by exact hR25)
      · exact rf_ok (by exact hR3)
noncomputable def nk_Layout_measure_52 (v1 : Int) (v2 : Int) (v3 : Int) (w0 : Int) (n : NS) : Option (NS) :=
  (N_Layout_look w0 3 n).bind fun z2 =>
  st (nw n 3 v3 6 z2) fun n6 =>
  (N_Layout_look w0 5 n6).bind fun z10 =>
  st (nw n6 3 v3 7 z10) fun n14 =>
  (N_Layout_look w0 4 n14).bind fun z19 =>
  ck ((n14 3 v3 7) + z19) <|
  st (nw n14 3 v3 8 ((n14 3 v3 7) + z19)) fun n24 =>
  (N_Layout_look w0 1 n24).bind fun z28 =>
  st (nw n24 3 v3 9 z28) fun n32 =>
  (N_Layout_look w0 2 n32).bind fun z36 =>
  st (nw n32 3 v3 10 z36) fun n40 =>
  (N_Layout_look w0 8 n40).bind fun z44 =>
  st (nw n40 3 v3 11 z44) fun n48 =>
  (N_Layout_look w0 9 n48).bind fun z52 =>
  st (nw n48 3 v3 12 z52) fun n56 =>
  st (nw n56 3 v3 13 0) fun n60 =>
  st (nw n60 3 v3 19 0) fun n64 =>
  st (nw n64 3 v3 2 0) fun n68 =>
  st (nw n68 3 v3 3 0) fun n72 =>
  if v1 = 0 then
    st (nw n72 3 v3 1 (-1)) fun n77 =>
    st (nw n77 3 v3 4 (n77 5 0 3)) fun n82 =>
    some n82
  else
    ix (n72 7 v2 2) 120 <|
    if (n72 3 (n72 7 v2 2) 0) = 1 then
      nk_Layout_measure_212 v1 v2 v3 (n72 7 v2 2) v3 n72
    else
      ix (n72 7 v2 2) 120 <|
      nk_Layout_measure_212 v1 v2 v3 (n72 3 (n72 7 v2 2) 1) v3 n72
theorem fk_Layout_measure_52 {w y : Prop} {g : g_S} {n : NS} {m : YS} (hw : w) {xv1 : Int32} {v1 : Int} (ev1 : xv1 = Int32.ofInt v1) (rv1 : inR v1) {xv2 : Nat} {v2 : Int} (ev2 : xv2 = aNd v2) (rv2 : 0 ≤ v2 ∧ v2 ≤ 120) {xv3 : Nat} {v3 : Int} (ev3 : xv3 = aBx v3) (rv3 : 0 ≤ v3 ∧ v3 ≤ 120) {xw0 : Int32} {w0 : Int} (ew0 : xw0 = Int32.ofInt w0) (rw0 : inR w0) (hR : RC w y g n m) : Rf (fun a b => RC w y a b m) (k_Layout_measure_52 1661 xv1 xv2 xv3 xw0 g) (nk_Layout_measure_52 v1 v2 v3 w0 n) := by
  subst ev1
  subst ev2
  subst ev3
  subst ew0
  unfold k_Layout_measure_52 nk_Layout_measure_52
  refine v_c (sK5 hR hw).1 ?_
  refine rf_bind (f_Layout_look hw rfl rw0 (e_n 3) (show inR 3 by decide) hR) (fun a4 z2 h => ?_)
  obtain ⟨rfl, r3⟩ := h
  refine p_I (s := 6) hR (ce_bx hR hw rv3) rfl ⟨rfl, rfl, by decide⟩ rfl r3 (fun g8 n6 hR7 => ?_)
  refine v_c (sK5 hR7 hw).1 ?_
  refine rf_bind (f_Layout_look hw rfl rw0 (e_n 5) (show inR 5 by decide) hR7) (fun a12 z10 h => ?_)
  obtain ⟨rfl, r11⟩ := h
  refine p_I (s := 7) hR7 (ce_bx hR7 hw rv3) rfl ⟨rfl, rfl, by decide⟩ rfl r11 (fun g16 n14 hR15 => ?_)
  refine c_I (s := 7) hR15 (ce_bx hR15 hw rv3) rfl rfl (fun h17 => ?_)
  refine v_c (sK5 hR15 hw).1 ?_
  refine rf_bind (f_Layout_look hw rfl rw0 (e_n 4) (show inR 4 by decide) hR15) (fun a21 z19 h => ?_)
  obtain ⟨rfl, r20⟩ := h
  refine rf_ck (fun h22 => ?_)
  refine p_I (s := 8) hR15 (ce_bx hR15 hw rv3) rfl ⟨rfl, rfl, by decide⟩ (e_add rfl rfl) h22 (fun g26 n24 hR25 => ?_)
  refine v_c (sK5 hR25 hw).1 ?_
  refine rf_bind (f_Layout_look hw rfl rw0 (e_n 1) (show inR 1 by decide) hR25) (fun a30 z28 h => ?_)
  obtain ⟨rfl, r29⟩ := h
  refine p_I (s := 9) hR25 (ce_bx hR25 hw rv3) rfl ⟨rfl, rfl, by decide⟩ rfl r29 (fun g34 n32 hR33 => ?_)
  refine v_c (sK5 hR33 hw).1 ?_
  refine rf_bind (f_Layout_look hw rfl rw0 (e_n 2) (show inR 2 by decide) hR33) (fun a38 z36 h => ?_)
  obtain ⟨rfl, r37⟩ := h
  refine p_I (s := 10) hR33 (ce_bx hR33 hw rv3) rfl ⟨rfl, rfl, by decide⟩ rfl r37 (fun g42 n40 hR41 => ?_)
  refine v_c (sK5 hR41 hw).1 ?_
  refine rf_bind (f_Layout_look hw rfl rw0 (e_n 8) (show inR 8 by decide) hR41) (fun a46 z44 h => ?_)
  obtain ⟨rfl, r45⟩ := h
  refine p_I (s := 11) hR41 (ce_bx hR41 hw rv3) rfl ⟨rfl, rfl, by decide⟩ rfl r45 (fun g50 n48 hR49 => ?_)
  refine v_c (sK5 hR49 hw).1 ?_
  refine rf_bind (f_Layout_look hw rfl rw0 (e_n 9) (show inR 9 by decide) hR49) (fun a54 z52 h => ?_)
  obtain ⟨rfl, r53⟩ := h
  refine p_I (s := 12) hR49 (ce_bx hR49 hw rv3) rfl ⟨rfl, rfl, by decide⟩ rfl r53 (fun g58 n56 hR57 => ?_)
  refine p_I (s := 13) hR57 (ce_bx hR57 hw rv3) rfl ⟨rfl, rfl, by decide⟩ (e_n 0) (show inR 0 by decide) (fun g62 n60 hR61 => ?_)
  refine p_I (s := 19) hR61 (ce_bx hR61 hw rv3) rfl ⟨rfl, rfl, by decide⟩ (e_n 0) (show inR 0 by decide) (fun g66 n64 hR65 => ?_)
  refine p_I (s := 2) hR65 (ce_bx hR65 hw rv3) rfl ⟨rfl, rfl, by decide⟩ (e_n 0) (show inR 0 by decide) (fun g70 n68 hR69 => ?_)
  refine p_I (s := 3) hR69 (ce_bx hR69 hw rv3) rfl ⟨rfl, rfl, by decide⟩ (e_n 0) (show inR 0 by decide) (fun g74 n72 hR73 => ?_)
  refine rf_eq rfl (e_n 0) rv1 (show inR 0 by decide) ?_ ?_
  · refine p_I (s := 1) hR73 (ce_bx hR73 hw rv3) rfl ⟨rfl, rfl, by decide⟩ (e_m 1) (show inR (-1) by decide) (fun g79 n77 hR78 => ?_)
    refine c_I (s := 3) hR78 (sK5 hR78 hw) rfl rfl (fun h80 => ?_)
    refine p_I (s := 4) hR78 (ce_bx hR78 hw rv3) rfl ⟨rfl, rfl, by decide⟩ rfl h80 (fun g84 n82 hR83 => ?_)
    exact rf_ok (by exact hR83)
  · refine c_S hR73 hw (sK5 hR73 hw) (by decide) (show srf 5 0 2 = some 1662 from rfl) ?_
    refine c_I (s := 2) hR73 (ce_nd hR73 hw rv2) rfl rfl (fun h87 => ?_)
    refine s_S (p := aBx (_)) (L := 120) hR73 hw (sA42 hR73 hw) (by decide) (lA42 hR73 hw) rfl rfl h87 (fun z1 z2 => srf42 z1 z2) (fun h88 => ?_)
    refine c_I (s := 0) hR73 (ce_bx hR73 hw (And.intro h88.1 (Int.le_of_lt h88.2))) rfl rfl (fun h90 => ?_)
    refine rf_eq rfl (e_n 1) h90 (show inR 1 by decide) ?_ ?_
    · refine c_I (s := 2) hR73 (ce_nd hR73 hw rv2) rfl rfl (fun h92 => ?_)
      exact fk_Layout_measure_212 hw rfl rv1 rfl rv2 rfl rv3 rfl h92 rfl rv3 hR73
    · refine c_S hR73 hw (sK5 hR73 hw) (by decide) (show srf 5 0 2 = some 1662 from rfl) ?_
      refine c_I (s := 2) hR73 (ce_nd hR73 hw rv2) rfl rfl (fun h94 => ?_)
      refine s_S (p := aBx (_)) (L := 120) hR73 hw (sA42 hR73 hw) (by decide) (lA42 hR73 hw) rfl rfl h94 (fun z1 z2 => srf42 z1 z2) (fun h95 => ?_)
      refine c_I (s := 1) hR73 (ce_bx hR73 hw (And.intro h95.1 (Int.le_of_lt h95.2))) rfl rfl (fun h97 => ?_)
      exact fk_Layout_measure_212 hw rfl rv1 rfl rv2 rfl rv3 rfl h97 rfl rv3 hR73
noncomputable def N_Layout_measure (v1 : Int) (n : NS) : Option (NS) :=
  ix v1 120 <|
  ix v1 120 <|
  (N_Layout_kindOf v1 v1 n).bind fun z9 =>
  st (nw n 3 v1 0 z9) fun n13 =>
  if (n13 3 v1 0) = 0 then
    some n13
  else
    if (n13 7 v1 0) = 17 then
      nk_Layout_measure_52 v1 v1 v1 (n13 7 v1 2) n13
    else
      nk_Layout_measure_52 v1 v1 v1 v1 n13
theorem f_Layout_measure {w y : Prop} {g : g_S} {n : NS} {m : YS} (hw : w) {xv1 : Int32} {v1 : Int} (ev1 : xv1 = Int32.ofInt v1) (rv1 : inR v1) (hR : RC w y g n m) : Rf (fun a b => RC w y a b m) (M_Layout_measure 1661 xv1 g) (N_Layout_measure v1 n) := by
  subst ev1
  unfold M_Layout_measure N_Layout_measure
  refine c_S hR hw (sK5 hR hw) (by decide) (show srf 5 0 0 = some 5 from rfl) ?_
  refine c_S hR hw (sK10 hR hw) (by decide) (show srf 10 0 0 = some 6 from rfl) ?_
  refine s_S (p := aNd (_)) (L := 120) hR hw (sA20 hR hw) (by decide) (lA20 hR hw) rfl rfl rv1 (fun z1 z2 => srf20 z1 z2) (fun h3 => ?_)
  refine c_S hR hw (sK5 hR hw) (by decide) (show srf 5 0 2 = some 1662 from rfl) ?_
  refine s_S (p := aBx (_)) (L := 120) hR hw (sA42 hR hw) (by decide) (lA42 hR hw) rfl rfl rv1 (fun z1 z2 => srf42 z1 z2) (fun h6 => ?_)
  refine v_c (sK5 hR hw).1 ?_
  refine rf_bind (f_Layout_kindOf hw rfl rv1 rfl (And.intro h3.1 (Int.le_of_lt h3.2)) hR) (fun a11 z9 h => ?_)
  obtain ⟨rfl, r10⟩ := h
  refine p_I (s := 0) hR (ce_bx hR hw (And.intro h6.1 (Int.le_of_lt h6.2))) rfl ⟨rfl, rfl, by decide⟩ rfl r10 (fun g15 n13 hR14 => ?_)
  refine c_I (s := 0) hR14 (ce_bx hR14 hw (And.intro h6.1 (Int.le_of_lt h6.2))) rfl rfl (fun h16 => ?_)
  refine rf_eq rfl (e_n 0) h16 (show inR 0 by decide) ?_ ?_
  · exact rf_ok (by exact hR14)
  · refine c_I (s := 0) hR14 (ce_nd hR14 hw (And.intro h3.1 (Int.le_of_lt h3.2))) rfl rfl (fun h19 => ?_)
    refine rf_eq rfl (e_n 17) h19 (show inR 17 by decide) ?_ ?_
    · refine c_I (s := 2) hR14 (ce_nd hR14 hw (And.intro h3.1 (Int.le_of_lt h3.2))) rfl rfl (fun h21 => ?_)
      exact fk_Layout_measure_52 hw rfl rv1 rfl (And.intro h3.1 (Int.le_of_lt h3.2)) rfl (And.intro h6.1 (Int.le_of_lt h6.2)) rfl h21 hR14
    · exact fk_Layout_measure_52 hw rfl rv1 rfl (And.intro h3.1 (Int.le_of_lt h3.2)) rfl (And.intro h6.1 (Int.le_of_lt h6.2)) rfl rv1 hR14
noncomputable def N_Box_isBlockInFlow (v0 : Int) (n : NS) : Option (Int) :=
  if (n 3 v0 0) = 1 then
    if (n 3 v0 13) = 0 then
      some 1
    else
      some 0
  else
    some 0
theorem f_Box_isBlockInFlow {w y : Prop} {g : g_S} {n : NS} {m : YS} (hw : w) {xv0 : Nat} {v0 : Int} (ev0 : xv0 = aBx v0) (rv0 : 0 ≤ v0 ∧ v0 ≤ 120) (hR : RC w y g n m) : Rf (fun a b => RZ a b) (M_Box_isBlockInFlow xv0 g) (N_Box_isBlockInFlow v0 n) := by
  subst ev0
  unfold M_Box_isBlockInFlow N_Box_isBlockInFlow
  refine c_I (s := 0) hR (ce_bx hR hw rv0) rfl rfl (fun h1 => ?_)
  refine rf_eq rfl (e_n 1) h1 (show inR 1 by decide) ?_ ?_
  · refine c_I (s := 13) hR (ce_bx hR hw rv0) rfl rfl (fun h3 => ?_)
    refine rf_eq rfl (e_n 0) h3 (show inR 0 by decide) ?_ ?_
    · exact rf_ok (by exact ⟨(e_n 1), (.inr rfl)⟩)
    · exact rf_ok (by exact ⟨(e_n 0), (.inl rfl)⟩)
  · exact rf_ok (by exact ⟨(e_n 0), (.inl rfl)⟩)
noncomputable def nk_Layout_joinMargins_145 (v1 : Int) (v3 : Int) (v5 : Int) (v6 : Int) (v7 : Int) (n : NS) : Option ((Int × Int × Int) ⊕ (Int × Int)) :=
  ix v7 120 <|
  some (.inl (v5, v6, (n 7 v7 5)))
theorem fk_Layout_joinMargins_145 {w y : Prop} {g : g_S} {n : NS} {m : YS} (hw : w) {xv1 : Int32} {v1 : Int} (ev1 : xv1 = Int32.ofInt v1) (rv1 : inR v1) {xv3 : Nat} {v3 : Int} (ev3 : xv3 = aBx v3) (rv3 : 0 ≤ v3 ∧ v3 ≤ 120) {xv5 : Int32} {v5 : Int} (ev5 : xv5 = Int32.ofInt v5) (rv5 : inR v5) {xv6 : Int32} {v6 : Int} (ev6 : xv6 = Int32.ofInt v6) (rv6 : inR v6) {xv7 : Int32} {v7 : Int} (ev7 : xv7 = Int32.ofInt v7) (rv7 : inR v7) (hR : RC w y g n m) : Rf (RS (fun a b => RI a.1 b.1 ∧ RI a.2.1 b.2.1 ∧ RI a.2.2 b.2.2) (fun a b => RI a.1 b.1 ∧ RI a.2 b.2)) (k_Layout_joinMargins_145 1661 xv1 xv3 xv5 xv6 xv7 g) (nk_Layout_joinMargins_145 v1 v3 v5 v6 v7 n) := by
  subst ev1
  subst ev3
  subst ev5
  subst ev6
  subst ev7
  unfold k_Layout_joinMargins_145 nk_Layout_joinMargins_145
  refine c_S hR hw (sK5 hR hw) (by decide) (show srf 5 0 0 = some 5 from rfl) ?_
  refine c_S hR hw (sK10 hR hw) (by decide) (show srf 10 0 0 = some 6 from rfl) ?_
  refine s_S (p := aNd (_)) (L := 120) hR hw (sA20 hR hw) (by decide) (lA20 hR hw) rfl rfl rv7 (fun z1 z2 => srf20 z1 z2) (fun h3 => ?_)
  refine c_I (s := 5) hR (ce_nd hR hw (And.intro h3.1 (Int.le_of_lt h3.2))) rfl rfl (fun h5 => ?_)
  exact rf_ok (by exact ⟨⟨rfl, rv5⟩, ⟨rfl, rv6⟩, ⟨rfl, h5⟩⟩)
noncomputable def nk_Layout_joinMargins_139 (v1 : Int) (v3 : Int) (v7 : Int) (w0 : Int) (n : NS) : Option ((Int × Int × Int) ⊕ (Int × Int)) :=
  nk_Layout_joinMargins_145 v1 v3 w0 v7 v7 n
theorem fk_Layout_joinMargins_139 {w y : Prop} {g : g_S} {n : NS} {m : YS} (hw : w) {xv1 : Int32} {v1 : Int} (ev1 : xv1 = Int32.ofInt v1) (rv1 : inR v1) {xv3 : Nat} {v3 : Int} (ev3 : xv3 = aBx v3) (rv3 : 0 ≤ v3 ∧ v3 ≤ 120) {xv7 : Int32} {v7 : Int} (ev7 : xv7 = Int32.ofInt v7) (rv7 : inR v7) {xw0 : Int32} {w0 : Int} (ew0 : xw0 = Int32.ofInt w0) (rw0 : inR w0) (hR : RC w y g n m) : Rf (RS (fun a b => RI a.1 b.1 ∧ RI a.2.1 b.2.1 ∧ RI a.2.2 b.2.2) (fun a b => RI a.1 b.1 ∧ RI a.2 b.2)) (k_Layout_joinMargins_139 1661 xv1 xv3 xv7 xw0 g) (nk_Layout_joinMargins_139 v1 v3 v7 w0 n) := by
  subst ev1
  subst ev3
  subst ev7
  subst ew0
  unfold k_Layout_joinMargins_139 nk_Layout_joinMargins_139
  exact fk_Layout_joinMargins_145 hw rfl rv1 rfl rv3 rfl rw0 rfl rv7 rfl rv7 hR
noncomputable def nb_Layout_joinMargins_107 (v1 : Int) (v3 : Int) (v5 : Int) (v6 : Int) (v7 : Int) (n : NS) : Option ((Int × Int × Int) ⊕ (Int × Int)) :=
  if v7 = (-1) then
    some (.inr (v5, v6))
  else
    ix v7 120 <|
    if (n 3 v7 0) = 0 then
      nk_Layout_joinMargins_145 v1 v3 v5 v6 v7 n
    else
      if v5 = (-1) then
        nk_Layout_joinMargins_139 v1 v3 v7 v7 n
      else
        nk_Layout_joinMargins_139 v1 v3 v7 v5 n
theorem fb_Layout_joinMargins_107 {w y : Prop} {g : g_S} {n : NS} {m : YS} (hw : w) {xv1 : Int32} {v1 : Int} (ev1 : xv1 = Int32.ofInt v1) (rv1 : inR v1) {xv3 : Nat} {v3 : Int} (ev3 : xv3 = aBx v3) (rv3 : 0 ≤ v3 ∧ v3 ≤ 120) {xv5 : Int32} {v5 : Int} (ev5 : xv5 = Int32.ofInt v5) (rv5 : inR v5) {xv6 : Int32} {v6 : Int} (ev6 : xv6 = Int32.ofInt v6) (rv6 : inR v6) {xv7 : Int32} {v7 : Int} (ev7 : xv7 = Int32.ofInt v7) (rv7 : inR v7) (hR : RC w y g n m) : Rf (RS (fun a b => RI a.1 b.1 ∧ RI a.2.1 b.2.1 ∧ RI a.2.2 b.2.2) (fun a b => RI a.1 b.1 ∧ RI a.2 b.2)) (b_Layout_joinMargins_107 1661 xv1 xv3 xv5 xv6 xv7 g) (nb_Layout_joinMargins_107 v1 v3 v5 v6 v7 n) := by
  subst ev1
  subst ev3
  subst ev5
  subst ev6
  subst ev7
  unfold b_Layout_joinMargins_107 nb_Layout_joinMargins_107
  refine rf_eq rfl (e_m 1) rv7 (show inR (-1) by decide) ?_ ?_
  · exact rf_ok (by exact ⟨⟨rfl, rv5⟩, ⟨rfl, rv6⟩⟩)
  · refine c_S hR hw (sK5 hR hw) (by decide) (show srf 5 0 2 = some 1662 from rfl) ?_
    refine s_S (p := aBx (_)) (L := 120) hR hw (sA42 hR hw) (by decide) (lA42 hR hw) rfl rfl rv7 (fun z1 z2 => srf42 z1 z2) (fun h3 => ?_)
    refine c_I (s := 0) hR (ce_bx hR hw (And.intro h3.1 (Int.le_of_lt h3.2))) rfl rfl (fun h5 => ?_)
    refine rf_eq rfl (e_n 0) h5 (show inR 0 by decide) ?_ ?_
    · exact fk_Layout_joinMargins_145 hw rfl rv1 rfl rv3 rfl rv5 rfl rv6 rfl rv7 hR
    · refine rf_eq rfl (e_m 1) rv5 (show inR (-1) by decide) ?_ ?_
      · exact fk_Layout_joinMargins_139 hw rfl rv1 rfl rv3 rfl rv7 rfl rv7 hR
      · exact fk_Layout_joinMargins_139 hw rfl rv1 rfl rv3 rfl rv7 rfl rv5 hR
noncomputable def NL_Layout_joinMargins_107 (v1 : Int) (v3 : Int) (v5 : Int) (v6 : Int) (v7 : Int) (n : NS) : Option (Int × Int) :=
  it (fun s : Int × Int × Int => nb_Layout_joinMargins_107 v1 v3 s.1 s.2.1 s.2.2 n) (v5, v6, v7)
theorem fL_Layout_joinMargins_107 {w y : Prop} {g : g_S} {n : NS} {m : YS} (hw : w) {xv1 : Int32} {v1 : Int} (ev1 : xv1 = Int32.ofInt v1) (rv1 : inR v1) {xv3 : Nat} {v3 : Int} (ev3 : xv3 = aBx v3) (rv3 : 0 ≤ v3 ∧ v3 ≤ 120) {xv5 : Int32} {v5 : Int} (ev5 : xv5 = Int32.ofInt v5) (rv5 : inR v5) {xv6 : Int32} {v6 : Int} (ev6 : xv6 = Int32.ofInt v6) (rv6 : inR v6) {xv7 : Int32} {v7 : Int} (ev7 : xv7 = Int32.ofInt v7) (rv7 : inR v7) (hR : RC w y g n m) : Rf (fun a b => RI a.1 b.1 ∧ RI a.2 b.2) (L_Layout_joinMargins_107 1661 xv1 xv3 xv5 xv6 xv7 g) (NL_Layout_joinMargins_107 v1 v3 v5 v6 v7 n) := by
  subst ev1
  subst ev3
  subst ev5
  subst ev6
  subst ev7
  unfold L_Layout_joinMargins_107 NL_Layout_joinMargins_107
  refine rf_it (I := (fun a b => RI a.1 b.1 ∧ RI a.2.1 b.2.1 ∧ RI a.2.2 b.2.2)) (fun s t h => ?_) ⟨⟨rfl, rv5⟩, ⟨rfl, rv6⟩, ⟨rfl, rv7⟩⟩
  exact fb_Layout_joinMargins_107 hw rfl rv1 rfl rv3 h.1.1 h.1.2 h.2.1.1 h.2.1.2 h.2.2.1 h.2.2.2 hR
theorem NL_Layout_joinMargins_107_eq (v1 : Int) (v3 : Int) (v5 : Int) (v6 : Int) (v7 : Int) (n : NS) : NL_Layout_joinMargins_107 v1 v3 v5 v6 v7 n = itc (nb_Layout_joinMargins_107 v1 v3 v5 v6 v7 n) (fun s => NL_Layout_joinMargins_107 v1 v3 s.1 s.2.1 s.2.2 n) := it_eq2 (fun s : Int × Int × Int => nb_Layout_joinMargins_107 v1 v3 s.1 s.2.1 s.2.2 n) (v5, v6, v7)
noncomputable def nk_Layout_joinMargins_208 (v1 : Int) (v3 : Int) (v6 : Int) (n : NS) : Option (NS) :=
  if v6 = (-1) then
    some n
  else
    ix v6 120 <|
    (N_Box_isBlockInFlow v6 n).bind fun z7 =>
    if z7 = 0 then
      some n
    else
      (N_Layout_look v1 7 n).bind fun z13 =>
      if z13 = (-1) then
        st (nw n 3 v3 17 1) fun n18 =>
        ix v6 120 <|
        st (nw n18 3 v3 15 (max (n18 3 v3 6) (n18 3 v6 15))) fun n28 =>
        some n28
      else
        some n
theorem fk_Layout_joinMargins_208 {w y : Prop} {g : g_S} {n : NS} {m : YS} (hw : w) {xv1 : Int32} {v1 : Int} (ev1 : xv1 = Int32.ofInt v1) (rv1 : inR v1) {xv3 : Nat} {v3 : Int} (ev3 : xv3 = aBx v3) (rv3 : 0 ≤ v3 ∧ v3 ≤ 120) {xv6 : Int32} {v6 : Int} (ev6 : xv6 = Int32.ofInt v6) (rv6 : inR v6) (hR : RC w y g n m) : Rf (fun a b => RC w y a b m) (k_Layout_joinMargins_208 1661 xv1 xv3 xv6 g) (nk_Layout_joinMargins_208 v1 v3 v6 n) := by
  subst ev1
  subst ev3
  subst ev6
  unfold k_Layout_joinMargins_208 nk_Layout_joinMargins_208
  refine rf_eq rfl (e_m 1) rv6 (show inR (-1) by decide) ?_ ?_
  · exact rf_ok (by exact hR)
  · refine c_S hR hw (sK5 hR hw) (by decide) (show srf 5 0 2 = some 1662 from rfl) ?_
    refine s_S (p := aBx (_)) (L := 120) hR hw (sA42 hR hw) (by decide) (lA42 hR hw) rfl rfl rv6 (fun z1 z2 => srf42 z1 z2) (fun h4 => ?_)
    refine v_c (ce_bx hR hw (And.intro h4.1 (Int.le_of_lt h4.2))).1 ?_
    refine rf_bind (f_Box_isBlockInFlow hw rfl (And.intro h4.1 (Int.le_of_lt h4.2)) hR) (fun a9 z7 h => ?_)
    obtain ⟨rfl, r8⟩ := h
    refine rf_eq rfl (e_n 0) (inZ.r r8) (show inR 0 by decide) ?_ ?_
    · exact rf_ok (by exact hR)
    · refine v_c (sK5 hR hw).1 ?_
      refine rf_bind (f_Layout_look hw rfl rv1 (e_n 7) (show inR 7 by decide) hR) (fun a15 z13 h => ?_)
      obtain ⟨rfl, r14⟩ := h
      refine rf_eq rfl (e_m 1) r14 (show inR (-1) by decide) ?_ ?_
      · refine p_Z (s := 17) hR (ce_bx hR hw rv3) rfl ⟨rfl, by decide⟩ (e_n 1) (.inr rfl) (fun g20 n18 hR19 => ?_)
        refine c_I (s := 6) hR19 (ce_bx hR19 hw rv3) rfl rfl (fun h21 => ?_)
        refine c_S hR19 hw (sK5 hR19 hw) (by decide) (show srf 5 0 2 = some 1662 from rfl) ?_
        refine s_S (p := aBx (_)) (L := 120) hR19 hw (sA42 hR19 hw) (by decide) (lA42 hR19 hw) rfl rfl rv6 (fun z1 z2 => srf42 z1 z2) (fun h23 => ?_)
        refine c_I (s := 15) hR19 (ce_bx hR19 hw (And.intro h23.1 (Int.le_of_lt h23.2))) rfl rfl (fun h25 => ?_)
        refine p_I (s := 15) hR19 (ce_bx hR19 hw rv3) rfl ⟨rfl, rfl, by decide⟩ (e_mx rfl rfl h21 h25) (max_r h21 h25) (fun g30 n28 hR29 => ?_)
        exact rf_ok (by exact hR29)
      · exact rf_ok (by exact hR)
noncomputable def nk_Layout_joinMargins_87 (v1 : Int) (v2 : Int) (v3 : Int) (w0 : Int) (n : NS) : Option (NS) :=
  if w0 = 0 then
    some n
  else
    (NL_Layout_joinMargins_107 v1 v3 (-1) (-1) (n 7 v2 3) n).bind <| u2 fun z4 z5 =>
    if z4 = (-1) then
      nk_Layout_joinMargins_208 v1 v3 z5 n
    else
      ix z4 120 <|
      (N_Box_isBlockInFlow z4 n).bind fun z15 =>
      if z15 = 0 then
        nk_Layout_joinMargins_208 v1 v3 z5 n
      else
        st (nw n 3 v3 16 1) fun n20 =>
        ix z4 120 <|
        st (nw n20 3 v3 14 (max (n20 3 v3 6) (n20 3 z4 14))) fun n30 =>
        nk_Layout_joinMargins_208 v1 v3 z5 n30
theorem fk_Layout_joinMargins_87 {w y : Prop} {g : g_S} {n : NS} {m : YS} (hw : w) {xv1 : Int32} {v1 : Int} (ev1 : xv1 = Int32.ofInt v1) (rv1 : inR v1) {xv2 : Nat} {v2 : Int} (ev2 : xv2 = aNd v2) (rv2 : 0 ≤ v2 ∧ v2 ≤ 120) {xv3 : Nat} {v3 : Int} (ev3 : xv3 = aBx v3) (rv3 : 0 ≤ v3 ∧ v3 ≤ 120) {xw0 : Int32} {w0 : Int} (ew0 : xw0 = Int32.ofInt w0) (rw0 : inR w0) (hR : RC w y g n m) : Rf (fun a b => RC w y a b m) (k_Layout_joinMargins_87 1661 xv1 xv2 xv3 xw0 g) (nk_Layout_joinMargins_87 v1 v2 v3 w0 n) := by
  subst ev1
  subst ev2
  subst ev3
  subst ew0
  unfold k_Layout_joinMargins_87 nk_Layout_joinMargins_87
  refine rf_eq rfl (e_n 0) rw0 (show inR 0 by decide) ?_ ?_
  · exact rf_ok (by exact hR)
  · refine c_I (s := 3) hR (ce_nd hR hw rv2) rfl rfl (fun h3 => ?_)
    refine rf_bind (fL_Layout_joinMargins_107 hw rfl rv1 rfl rv3 (e_m 1) (show inR (-1) by decide) (e_m 1) (show inR (-1) by decide) rfl h3 hR) (fun a b h => ?_)
    obtain ⟨a6, a7⟩ := a
    obtain ⟨z4, z5⟩ := b
    refine rf_u2 ?_
    obtain ⟨rfl, r8⟩ := (show RI a6 z4 from h.1)
    obtain ⟨rfl, r9⟩ := (show RI a7 z5 from h.2)
    refine rf_eq rfl (e_m 1) r8 (show inR (-1) by decide) ?_ ?_
    · exact fk_Layout_joinMargins_208 hw rfl rv1 rfl rv3 rfl r9 hR
    · refine c_S hR hw (sK5 hR hw) (by decide) (show srf 5 0 2 = some 1662 from rfl) ?_
      refine s_S (p := aBx (_)) (L := 120) hR hw (sA42 hR hw) (by decide) (lA42 hR hw) rfl rfl r8 (fun z1 z2 => srf42 z1 z2) (fun h12 => ?_)
      refine v_c (ce_bx hR hw (And.intro h12.1 (Int.le_of_lt h12.2))).1 ?_
      refine rf_bind (f_Box_isBlockInFlow hw rfl (And.intro h12.1 (Int.le_of_lt h12.2)) hR) (fun a17 z15 h => ?_)
      obtain ⟨rfl, r16⟩ := h
      refine rf_eq rfl (e_n 0) (inZ.r r16) (show inR 0 by decide) ?_ ?_
      · exact fk_Layout_joinMargins_208 hw rfl rv1 rfl rv3 rfl r9 hR
      · refine p_Z (s := 16) hR (ce_bx hR hw rv3) rfl ⟨rfl, by decide⟩ (e_n 1) (.inr rfl) (fun g22 n20 hR21 => ?_)
        refine c_I (s := 6) hR21 (ce_bx hR21 hw rv3) rfl rfl (fun h23 => ?_)
        refine c_S hR21 hw (sK5 hR21 hw) (by decide) (show srf 5 0 2 = some 1662 from rfl) ?_
        refine s_S (p := aBx (_)) (L := 120) hR21 hw (sA42 hR21 hw) (by decide) (lA42 hR21 hw) rfl rfl r8 (fun z1 z2 => srf42 z1 z2) (fun h25 => ?_)
        refine c_I (s := 14) hR21 (ce_bx hR21 hw (And.intro h25.1 (Int.le_of_lt h25.2))) rfl rfl (fun h27 => ?_)
        refine p_I (s := 14) hR21 (ce_bx hR21 hw rv3) rfl ⟨rfl, rfl, by decide⟩ (e_mx rfl rfl h23 h27) (max_r h23 h27) (fun g32 n30 hR31 => ?_)
        exact fk_Layout_joinMargins_208 hw rfl rv1 rfl rv3 rfl r9 hR31
noncomputable def nk_Layout_joinMargins_86 (v1 : Int) (v2 : Int) (v3 : Int) (n : NS) : Option (NS) :=
  nk_Layout_joinMargins_87 v1 v2 v3 0 n
theorem fk_Layout_joinMargins_86 {w y : Prop} {g : g_S} {n : NS} {m : YS} (hw : w) {xv1 : Int32} {v1 : Int} (ev1 : xv1 = Int32.ofInt v1) (rv1 : inR v1) {xv2 : Nat} {v2 : Int} (ev2 : xv2 = aNd v2) (rv2 : 0 ≤ v2 ∧ v2 ≤ 120) {xv3 : Nat} {v3 : Int} (ev3 : xv3 = aBx v3) (rv3 : 0 ≤ v3 ∧ v3 ≤ 120) (hR : RC w y g n m) : Rf (fun a b => RC w y a b m) (k_Layout_joinMargins_86 1661 xv1 xv2 xv3 g) (nk_Layout_joinMargins_86 v1 v2 v3 n) := by
  subst ev1
  subst ev2
  subst ev3
  unfold k_Layout_joinMargins_86 nk_Layout_joinMargins_86
  exact fk_Layout_joinMargins_87 hw rfl rv1 rfl rv2 rfl rv3 (e_n 0) (show inR 0 by decide) hR
noncomputable def N_Layout_joinMargins (v1 : Int) (n : NS) : Option (NS) :=
  ix v1 120 <|
  ix v1 120 <|
  st (nw n 3 v1 14 (n 3 v1 6)) fun n10 =>
  st (nw n10 3 v1 15 (n10 3 v1 6)) fun n15 =>
  st (nw n15 3 v1 16 0) fun n19 =>
  st (nw n19 3 v1 17 0) fun n23 =>
  if v1 = 0 then
    nk_Layout_joinMargins_86 v1 v1 v1 n23
  else
    if (n23 3 v1 13) = 0 then
      if (n23 3 v1 8) = 0 then
        (N_Layout_look v1 0 n23).bind fun z32 =>
        if z32 = 0 then
          (N_Layout_look (n23 7 v1 2) 0 n23).bind fun z38 =>
          if z38 = 0 then
            nk_Layout_joinMargins_87 v1 v1 v1 1 n23
          else
            nk_Layout_joinMargins_86 v1 v1 v1 n23
        else
          nk_Layout_joinMargins_86 v1 v1 v1 n23
      else
        nk_Layout_joinMargins_86 v1 v1 v1 n23
    else
      nk_Layout_joinMargins_86 v1 v1 v1 n23
theorem f_Layout_joinMargins {w y : Prop} {g : g_S} {n : NS} {m : YS} (hw : w) {xv1 : Int32} {v1 : Int} (ev1 : xv1 = Int32.ofInt v1) (rv1 : inR v1) (hR : RC w y g n m) : Rf (fun a b => RC w y a b m) (M_Layout_joinMargins 1661 xv1 g) (N_Layout_joinMargins v1 n) := by
  subst ev1
  unfold M_Layout_joinMargins N_Layout_joinMargins
  refine c_S hR hw (sK5 hR hw) (by decide) (show srf 5 0 0 = some 5 from rfl) ?_
  refine c_S hR hw (sK10 hR hw) (by decide) (show srf 10 0 0 = some 6 from rfl) ?_
  refine s_S (p := aNd (_)) (L := 120) hR hw (sA20 hR hw) (by decide) (lA20 hR hw) rfl rfl rv1 (fun z1 z2 => srf20 z1 z2) (fun h3 => ?_)
  refine c_S hR hw (sK5 hR hw) (by decide) (show srf 5 0 2 = some 1662 from rfl) ?_
  refine s_S (p := aBx (_)) (L := 120) hR hw (sA42 hR hw) (by decide) (lA42 hR hw) rfl rfl rv1 (fun z1 z2 => srf42 z1 z2) (fun h6 => ?_)
  refine c_I (s := 6) hR (ce_bx hR hw (And.intro h6.1 (Int.le_of_lt h6.2))) rfl rfl (fun h8 => ?_)
  refine p_I (s := 14) hR (ce_bx hR hw (And.intro h6.1 (Int.le_of_lt h6.2))) rfl ⟨rfl, rfl, by decide⟩ rfl h8 (fun g12 n10 hR11 => ?_)
  refine c_I (s := 6) hR11 (ce_bx hR11 hw (And.intro h6.1 (Int.le_of_lt h6.2))) rfl rfl (fun h13 => ?_)
  refine p_I (s := 15) hR11 (ce_bx hR11 hw (And.intro h6.1 (Int.le_of_lt h6.2))) rfl ⟨rfl, rfl, by decide⟩ rfl h13 (fun g17 n15 hR16 => ?_)
  refine p_Z (s := 16) hR16 (ce_bx hR16 hw (And.intro h6.1 (Int.le_of_lt h6.2))) rfl ⟨rfl, by decide⟩ (e_n 0) (.inl rfl) (fun g21 n19 hR20 => ?_)
  refine p_Z (s := 17) hR20 (ce_bx hR20 hw (And.intro h6.1 (Int.le_of_lt h6.2))) rfl ⟨rfl, by decide⟩ (e_n 0) (.inl rfl) (fun g25 n23 hR24 => ?_)
  refine rf_eq rfl (e_n 0) rv1 (show inR 0 by decide) ?_ ?_
  · exact fk_Layout_joinMargins_86 hw rfl rv1 rfl (And.intro h3.1 (Int.le_of_lt h3.2)) rfl (And.intro h6.1 (Int.le_of_lt h6.2)) hR24
  · refine c_I (s := 13) hR24 (ce_bx hR24 hw (And.intro h6.1 (Int.le_of_lt h6.2))) rfl rfl (fun h27 => ?_)
    refine rf_eq rfl (e_n 0) h27 (show inR 0 by decide) ?_ ?_
    · refine c_I (s := 8) hR24 (ce_bx hR24 hw (And.intro h6.1 (Int.le_of_lt h6.2))) rfl rfl (fun h29 => ?_)
      refine rf_eq rfl (e_n 0) h29 (show inR 0 by decide) ?_ ?_
      · refine v_c (sK5 hR24 hw).1 ?_
        refine rf_bind (f_Layout_look hw rfl rv1 (e_n 0) (show inR 0 by decide) hR24) (fun a34 z32 h => ?_)
        obtain ⟨rfl, r33⟩ := h
        refine rf_eq rfl (e_n 0) r33 (show inR 0 by decide) ?_ ?_
        · refine c_I (s := 2) hR24 (ce_nd hR24 hw (And.intro h3.1 (Int.le_of_lt h3.2))) rfl rfl (fun h36 => ?_)
          refine v_c (sK5 hR24 hw).1 ?_
          refine rf_bind (f_Layout_look hw rfl h36 (e_n 0) (show inR 0 by decide) hR24) (fun a40 z38 h => ?_)
          obtain ⟨rfl, r39⟩ := h
          refine rf_eq rfl (e_n 0) r39 (show inR 0 by decide) ?_ ?_
          · exact fk_Layout_joinMargins_87 hw rfl rv1 rfl (And.intro h3.1 (Int.le_of_lt h3.2)) rfl (And.intro h6.1 (Int.le_of_lt h6.2)) (e_n 1) (show inR 1 by decide) hR24
          · exact fk_Layout_joinMargins_86 hw rfl rv1 rfl (And.intro h3.1 (Int.le_of_lt h3.2)) rfl (And.intro h6.1 (Int.le_of_lt h6.2)) hR24
        · exact fk_Layout_joinMargins_86 hw rfl rv1 rfl (And.intro h3.1 (Int.le_of_lt h3.2)) rfl (And.intro h6.1 (Int.le_of_lt h6.2)) hR24
      · exact fk_Layout_joinMargins_86 hw rfl rv1 rfl (And.intro h3.1 (Int.le_of_lt h3.2)) rfl (And.intro h6.1 (Int.le_of_lt h6.2)) hR24
    · exact fk_Layout_joinMargins_86 hw rfl rv1 rfl (And.intro h3.1 (Int.le_of_lt h3.2)) rfl (And.intro h6.1 (Int.le_of_lt h6.2)) hR24
noncomputable def N_Layout_setHeight (v1 : Int) (v2 : Int) (v3 : Int) (n : NS) : Option (NS) :=
  (N_Layout_look v1 7 n).bind fun z2 =>
  ck (2 * (n 3 v2 8)) <|
  ck ((2 * (n 3 v2 8)) + v3) <|
  st (nw n 3 v2 5 ((2 * (n 3 v2 8)) + v3)) fun n9 =>
  if z2 = (-1) then
    some n9
  else
    ck (2 * (n9 3 v2 8)) <|
    st (nw n9 3 v2 5 (max z2 (2 * (n9 3 v2 8)))) fun n18 =>
    some n18
theorem f_Layout_setHeight {w y : Prop} {g : g_S} {n : NS} {m : YS} (hw : w) {xv1 : Int32} {v1 : Int} (ev1 : xv1 = Int32.ofInt v1) (rv1 : inR v1) {xv2 : Nat} {v2 : Int} (ev2 : xv2 = aBx v2) (rv2 : 0 ≤ v2 ∧ v2 ≤ 120) {xv3 : Int32} {v3 : Int} (ev3 : xv3 = Int32.ofInt v3) (rv3 : inR v3) (hR : RC w y g n m) : Rf (fun a b => RC w y a b m) (M_Layout_setHeight 1661 xv1 xv2 xv3 g) (N_Layout_setHeight v1 v2 v3 n) := by
  subst ev1
  subst ev2
  subst ev3
  unfold M_Layout_setHeight N_Layout_setHeight
  refine v_c (sK5 hR hw).1 ?_
  refine rf_bind (f_Layout_look hw rfl rv1 (e_n 7) (show inR 7 by decide) hR) (fun a4 z2 h => ?_)
  obtain ⟨rfl, r3⟩ := h
  refine c_I (s := 8) hR (ce_bx hR hw rv2) rfl rfl (fun h5 => ?_)
  refine rf_ck (fun h6 => ?_)
  refine rf_ck (fun h7 => ?_)
  refine p_I (s := 5) hR (ce_bx hR hw rv2) rfl ⟨rfl, rfl, by decide⟩ (e_add (e_mul (e_n 2) rfl) rfl) h7 (fun g11 n9 hR10 => ?_)
  refine rf_eq rfl (e_m 1) r3 (show inR (-1) by decide) ?_ ?_
  · exact rf_ok (by exact hR10)
  · refine c_I (s := 8) hR10 (ce_bx hR10 hw rv2) rfl rfl (fun h14 => ?_)
    refine rf_ck (fun h15 => ?_)
    refine p_I (s := 5) hR10 (ce_bx hR10 hw rv2) rfl ⟨rfl, rfl, by decide⟩ (e_mx rfl (e_mul (e_n 2) rfl) r3 h15) (max_r r3 h15) (fun g20 n18 hR19 => ?_)
    exact rf_ok (by exact hR19)
noncomputable def nk_Layout_layFlex_115 (v1 : Int) (v2 : Int) (v3 : Int) (v4 : Int) (v5 : Int) (n : NS) : Option ((Int × Int × Int × NS) ⊕ (Int × NS)) :=
  ix v5 120 <|
  some (.inl (v3, v4, (n 7 v5 5), n))
theorem fk_Layout_layFlex_115 {w y : Prop} {g : g_S} {n : NS} {m : YS} (hw : w) {xv1 : Int32} {v1 : Int} (ev1 : xv1 = Int32.ofInt v1) (rv1 : inR v1) {xv2 : Nat} {v2 : Int} (ev2 : xv2 = aBx v2) (rv2 : 0 ≤ v2 ∧ v2 ≤ 120) {xv3 : Int32} {v3 : Int} (ev3 : xv3 = Int32.ofInt v3) (rv3 : inR v3) {xv4 : Int32} {v4 : Int} (ev4 : xv4 = Int32.ofInt v4) (rv4 : inR v4) {xv5 : Int32} {v5 : Int} (ev5 : xv5 = Int32.ofInt v5) (rv5 : inR v5) (hR : RC w y g n m) : Rf (RS (fun a b => RI a.1 b.1 ∧ RI a.2.1 b.2.1 ∧ RI a.2.2.1 b.2.2.1 ∧ RC w y a.2.2.2 b.2.2.2 m) (fun a b => RI a.1 b.1 ∧ RC w y a.2 b.2 m)) (k_Layout_layFlex_115 1661 xv1 xv2 xv3 xv4 xv5 g) (nk_Layout_layFlex_115 v1 v2 v3 v4 v5 n) := by
  subst ev1
  subst ev2
  subst ev3
  subst ev4
  subst ev5
  unfold k_Layout_layFlex_115 nk_Layout_layFlex_115
  refine c_S hR hw (sK5 hR hw) (by decide) (show srf 5 0 0 = some 5 from rfl) ?_
  refine c_S hR hw (sK10 hR hw) (by decide) (show srf 10 0 0 = some 6 from rfl) ?_
  refine s_S (p := aNd (_)) (L := 120) hR hw (sA20 hR hw) (by decide) (lA20 hR hw) rfl rfl rv5 (fun z1 z2 => srf20 z1 z2) (fun h3 => ?_)
  refine c_I (s := 5) hR (ce_nd hR hw (And.intro h3.1 (Int.le_of_lt h3.2))) rfl rfl (fun h5 => ?_)
  exact rf_ok (by exact ⟨⟨rfl, rv3⟩, ⟨rfl, rv4⟩, ⟨rfl, h5⟩, hR⟩)
noncomputable def nb_Layout_layFlex_29 (v1 : Int) (v2 : Int) (v3 : Int) (v4 : Int) (v5 : Int) (n : NS) : Option ((Int × Int × Int × NS) ⊕ (Int × NS)) :=
  if v5 = (-1) then
    some (.inr (v4, n))
  else
    ix v5 120 <|
    if (n 3 v5 0) = 0 then
      nk_Layout_layFlex_115 v1 v2 v3 v4 v5 n
    else
      ck (v3 + (n 3 v5 6)) <|
      st (nw n 3 v5 2 (v3 + (n 3 v5 6))) fun n10 =>
      ck ((n10 3 v2 8) + (n10 3 v5 6)) <|
      st (nw n10 3 v5 3 ((n10 3 v2 8) + (n10 3 v5 6))) fun n17 =>
      ck (2 * (n17 3 v5 6)) <|
      ck ((n17 3 v5 4) + (2 * (n17 3 v5 6))) <|
      ck (v3 + ((n17 3 v5 4) + (2 * (n17 3 v5 6)))) <|
      ck (2 * (n17 3 v5 6)) <|
      ck ((n17 3 v5 5) + (2 * (n17 3 v5 6))) <|
      nk_Layout_layFlex_115 v1 v2 (v3 + ((n17 3 v5 4) + (2 * (n17 3 v5 6)))) (max v4 ((n17 3 v5 5) + (2 * (n17 3 v5 6)))) v5 n17
theorem fb_Layout_layFlex_29 {w y : Prop} {g : g_S} {n : NS} {m : YS} (hw : w) {xv1 : Int32} {v1 : Int} (ev1 : xv1 = Int32.ofInt v1) (rv1 : inR v1) {xv2 : Nat} {v2 : Int} (ev2 : xv2 = aBx v2) (rv2 : 0 ≤ v2 ∧ v2 ≤ 120) {xv3 : Int32} {v3 : Int} (ev3 : xv3 = Int32.ofInt v3) (rv3 : inR v3) {xv4 : Int32} {v4 : Int} (ev4 : xv4 = Int32.ofInt v4) (rv4 : inR v4) {xv5 : Int32} {v5 : Int} (ev5 : xv5 = Int32.ofInt v5) (rv5 : inR v5) (hR : RC w y g n m) : Rf (RS (fun a b => RI a.1 b.1 ∧ RI a.2.1 b.2.1 ∧ RI a.2.2.1 b.2.2.1 ∧ RC w y a.2.2.2 b.2.2.2 m) (fun a b => RI a.1 b.1 ∧ RC w y a.2 b.2 m)) (b_Layout_layFlex_29 1661 xv1 xv2 xv3 xv4 xv5 g) (nb_Layout_layFlex_29 v1 v2 v3 v4 v5 n) := by
  subst ev1
  subst ev2
  subst ev3
  subst ev4
  subst ev5
  unfold b_Layout_layFlex_29 nb_Layout_layFlex_29
  refine rf_eq rfl (e_m 1) rv5 (show inR (-1) by decide) ?_ ?_
  · exact rf_ok (by exact ⟨⟨rfl, rv4⟩, hR⟩)
  · refine c_S hR hw (sK5 hR hw) (by decide) (show srf 5 0 2 = some 1662 from rfl) ?_
    refine s_S (p := aBx (_)) (L := 120) hR hw (sA42 hR hw) (by decide) (lA42 hR hw) rfl rfl rv5 (fun z1 z2 => srf42 z1 z2) (fun h3 => ?_)
    refine c_I (s := 0) hR (ce_bx hR hw (And.intro h3.1 (Int.le_of_lt h3.2))) rfl rfl (fun h5 => ?_)
    refine rf_eq rfl (e_n 0) h5 (show inR 0 by decide) ?_ ?_
    · exact fk_Layout_layFlex_115 hw rfl rv1 rfl rv2 rfl rv3 rfl rv4 rfl rv5 hR
    · refine c_I (s := 6) hR (ce_bx hR hw (And.intro h3.1 (Int.le_of_lt h3.2))) rfl rfl (fun h7 => ?_)
      refine rf_ck (fun h8 => ?_)
      refine p_I (s := 2) hR (ce_bx hR hw (And.intro h3.1 (Int.le_of_lt h3.2))) rfl ⟨rfl, rfl, by decide⟩ (e_add rfl rfl) h8 (fun g12 n10 hR11 => ?_)
      refine c_I (s := 8) hR11 (ce_bx hR11 hw rv2) rfl rfl (fun h13 => ?_)
      refine c_I (s := 6) hR11 (ce_bx hR11 hw (And.intro h3.1 (Int.le_of_lt h3.2))) rfl rfl (fun h14 => ?_)
      refine rf_ck (fun h15 => ?_)
      refine p_I (s := 3) hR11 (ce_bx hR11 hw (And.intro h3.1 (Int.le_of_lt h3.2))) rfl ⟨rfl, rfl, by decide⟩ (e_add rfl rfl) h15 (fun g19 n17 hR18 => ?_)
      refine c_I (s := 4) hR18 (ce_bx hR18 hw (And.intro h3.1 (Int.le_of_lt h3.2))) rfl rfl (fun h20 => ?_)
      refine c_I (s := 6) hR18 (ce_bx hR18 hw (And.intro h3.1 (Int.le_of_lt h3.2))) rfl rfl (fun h21 => ?_)
      refine rf_ck (fun h22 => ?_)
      refine rf_ck (fun h23 => ?_)
      refine rf_ck (fun h24 => ?_)
      refine c_I (s := 5) hR18 (ce_bx hR18 hw (And.intro h3.1 (Int.le_of_lt h3.2))) rfl rfl (fun h25 => ?_)
      refine c_I (s := 6) hR18 (ce_bx hR18 hw (And.intro h3.1 (Int.le_of_lt h3.2))) rfl rfl (fun h26 => ?_)
      refine rf_ck (fun h27 => ?_)
      refine rf_ck (fun h28 => ?_)
      exact fk_Layout_layFlex_115 hw rfl rv1 rfl rv2 (e_add rfl (e_add rfl (e_mul (e_n 2) rfl))) h24 (e_mx rfl (e_add rfl (e_mul (e_n 2) rfl)) rv4 h28) (max_r rv4 h28) rfl rv5 hR18
noncomputable def NL_Layout_layFlex_29 (v1 : Int) (v2 : Int) (v3 : Int) (v4 : Int) (v5 : Int) (n : NS) : Option (Int × NS) :=
  it (fun s : Int × Int × Int × NS => nb_Layout_layFlex_29 v1 v2 s.1 s.2.1 s.2.2.1 s.2.2.2) (v3, v4, v5, n)
theorem fL_Layout_layFlex_29 {w y : Prop} {g : g_S} {n : NS} {m : YS} (hw : w) {xv1 : Int32} {v1 : Int} (ev1 : xv1 = Int32.ofInt v1) (rv1 : inR v1) {xv2 : Nat} {v2 : Int} (ev2 : xv2 = aBx v2) (rv2 : 0 ≤ v2 ∧ v2 ≤ 120) {xv3 : Int32} {v3 : Int} (ev3 : xv3 = Int32.ofInt v3) (rv3 : inR v3) {xv4 : Int32} {v4 : Int} (ev4 : xv4 = Int32.ofInt v4) (rv4 : inR v4) {xv5 : Int32} {v5 : Int} (ev5 : xv5 = Int32.ofInt v5) (rv5 : inR v5) (hR : RC w y g n m) : Rf (fun a b => RI a.1 b.1 ∧ RC w y a.2 b.2 m) (L_Layout_layFlex_29 1661 xv1 xv2 xv3 xv4 xv5 g) (NL_Layout_layFlex_29 v1 v2 v3 v4 v5 n) := by
  subst ev1
  subst ev2
  subst ev3
  subst ev4
  subst ev5
  unfold L_Layout_layFlex_29 NL_Layout_layFlex_29
  refine rf_it (I := (fun a b => RI a.1 b.1 ∧ RI a.2.1 b.2.1 ∧ RI a.2.2.1 b.2.2.1 ∧ RC w y a.2.2.2 b.2.2.2 m)) (fun s t h => ?_) ⟨⟨rfl, rv3⟩, ⟨rfl, rv4⟩, ⟨rfl, rv5⟩, hR⟩
  exact fb_Layout_layFlex_29 hw rfl rv1 rfl rv2 h.1.1 h.1.2 h.2.1.1 h.2.1.2 h.2.2.1.1 h.2.2.1.2 h.2.2.2
theorem NL_Layout_layFlex_29_eq (v1 : Int) (v2 : Int) (v3 : Int) (v4 : Int) (v5 : Int) (n : NS) : NL_Layout_layFlex_29 v1 v2 v3 v4 v5 n = itc (nb_Layout_layFlex_29 v1 v2 v3 v4 v5 n) (fun s => NL_Layout_layFlex_29 v1 v2 s.1 s.2.1 s.2.2.1 s.2.2.2) := it_eq2 (fun s : Int × Int × Int × NS => nb_Layout_layFlex_29 v1 v2 s.1 s.2.1 s.2.2.1 s.2.2.2) (v3, v4, v5, n)
noncomputable def N_Layout_layFlex (v1 : Int) (n : NS) : Option (NS) :=
  ix v1 120 <|
  ix v1 120 <|
  (NL_Layout_layFlex_29 v1 v1 (n 3 v1 8) 0 (n 7 v1 3) n).bind <| u2 fun z10 n11 =>
  (N_Layout_setHeight v1 v1 z10 n11).bind fun n17 =>
  some n17
theorem f_Layout_layFlex {w y : Prop} {g : g_S} {n : NS} {m : YS} (hw : w) {xv1 : Int32} {v1 : Int} (ev1 : xv1 = Int32.ofInt v1) (rv1 : inR v1) (hR : RC w y g n m) : Rf (fun a b => RC w y a b m) (M_Layout_layFlex 1661 xv1 g) (N_Layout_layFlex v1 n) := by
  subst ev1
  unfold M_Layout_layFlex N_Layout_layFlex
  refine c_S hR hw (sK5 hR hw) (by decide) (show srf 5 0 2 = some 1662 from rfl) ?_
  refine s_S (p := aBx (_)) (L := 120) hR hw (sA42 hR hw) (by decide) (lA42 hR hw) rfl rfl rv1 (fun z1 z2 => srf42 z1 z2) (fun h2 => ?_)
  refine c_I (s := 8) hR (ce_bx hR hw (And.intro h2.1 (Int.le_of_lt h2.2))) rfl rfl (fun h4 => ?_)
  refine c_S hR hw (sK5 hR hw) (by decide) (show srf 5 0 0 = some 5 from rfl) ?_
  refine c_S hR hw (sK10 hR hw) (by decide) (show srf 10 0 0 = some 6 from rfl) ?_
  refine s_S (p := aNd (_)) (L := 120) hR hw (sA20 hR hw) (by decide) (lA20 hR hw) rfl rfl rv1 (fun z1 z2 => srf20 z1 z2) (fun h7 => ?_)
  refine c_I (s := 3) hR (ce_nd hR hw (And.intro h7.1 (Int.le_of_lt h7.2))) rfl rfl (fun h9 => ?_)
  refine rf_bind (fL_Layout_layFlex_29 hw rfl rv1 rfl (And.intro h2.1 (Int.le_of_lt h2.2)) rfl h4 (e_n 0) (show inR 0 by decide) rfl h9 hR) (fun a b h => ?_)
  obtain ⟨a12, a13⟩ := a
  obtain ⟨z10, n11⟩ := b
  refine rf_u2 ?_
  obtain ⟨rfl, r15⟩ := (show RI a12 z10 from h.1)
  have hR14 : RC w y a13 n11 m := h.2
  refine v_c (sK5 hR14 hw).1 ?_
  refine rf_bind (f_Layout_setHeight hw rfl rv1 rfl (And.intro h2.1 (Int.le_of_lt h2.2)) rfl r15 hR14) (fun g19 n17 hR18 => ?_)
  exact rf_ok (by exact hR18)
noncomputable def nk_Layout_openAt_128 (v1 : Int) (v2 : Int) (v3 : Int) (w0 : Int) (n : NS) : Option ((Int × NS) ⊕ (NS)) :=
  st (nw n 5 0 14 w0) fun n2 =>
  if (n2 3 v3 13) = 1 then
    ck ((n2 3 v3 2) + (n2 3 v3 4)) <|
    ck (((n2 3 v3 2) + (n2 3 v3 4)) + (n2 3 v3 6)) <|
    st (nw n2 5 0 12 (max (n2 5 0 12) (((n2 3 v3 2) + (n2 3 v3 4)) + (n2 3 v3 6)))) fun n15 =>
    ck (v2 + 1) <|
    some (.inl (v2 + 1, n15))
  else
    ck ((n2 3 v3 2) - (n2 3 v3 6)) <|
    st (nw n2 5 0 13 (min (n2 5 0 13) ((n2 3 v3 2) - (n2 3 v3 6)))) fun n25 =>
    ck (v2 + 1) <|
    some (.inl (v2 + 1, n25))
theorem fk_Layout_openAt_128 {w y : Prop} {g : g_S} {n : NS} {m : YS} (hw : w) {xv1 : Int32} {v1 : Int} (ev1 : xv1 = Int32.ofInt v1) (rv1 : inR v1) {xv2 : Int32} {v2 : Int} (ev2 : xv2 = Int32.ofInt v2) (rv2 : inR v2) {xv3 : Nat} {v3 : Int} (ev3 : xv3 = aBx v3) (rv3 : 0 ≤ v3 ∧ v3 ≤ 120) {xw0 : Int32} {w0 : Int} (ew0 : xw0 = Int32.ofInt w0) (rw0 : inR w0) (hR : RC w y g n m) : Rf (RS (fun a b => RI a.1 b.1 ∧ RC w y a.2 b.2 m) (fun a b => RC w y a b m)) (k_Layout_openAt_128 1661 xv1 xv2 xv3 xw0 1661 g) (nk_Layout_openAt_128 v1 v2 v3 w0 n) := by
  subst ev1
  subst ev2
  subst ev3
  subst ew0
  unfold k_Layout_openAt_128 nk_Layout_openAt_128
  refine p_I (s := 14) hR (sK5 hR hw) rfl ⟨rfl, rfl, by decide⟩ rfl rw0 (fun g4 n2 hR3 => ?_)
  refine c_I (s := 13) hR3 (ce_bx hR3 hw rv3) rfl rfl (fun h5 => ?_)
  refine rf_eq rfl (e_n 1) h5 (show inR 1 by decide) ?_ ?_
  · refine c_I (s := 12) hR3 (sK5 hR3 hw) rfl rfl (fun h7 => ?_)
    refine c_I (s := 2) hR3 (ce_bx hR3 hw rv3) rfl rfl (fun h8 => ?_)
    refine c_I (s := 4) hR3 (ce_bx hR3 hw rv3) rfl rfl (fun h9 => ?_)
    refine rf_ck (fun h10 => ?_)
    refine c_I (s := 6) hR3 (ce_bx hR3 hw rv3) rfl rfl (fun h11 => ?_)
    refine rf_ck (fun h12 => ?_)
    refine p_I (s := 12) hR3 (sK5 hR3 hw) rfl ⟨rfl, rfl, by decide⟩ (e_mx rfl (e_add (e_add rfl rfl) rfl) h7 h12) (max_r h7 h12) (fun g17 n15 hR16 => ?_)
    refine rf_ck (fun h18 => ?_)
    exact rf_ok (by exact ⟨⟨(e_add rfl (e_n 1)), h18⟩, hR16⟩)
  · refine c_I (s := 13) hR3 (sK5 hR3 hw) rfl rfl (fun h19 => ?_)
    refine c_I (s := 2) hR3 (ce_bx hR3 hw rv3) rfl rfl (fun h20 => ?_)
    refine c_I (s := 6) hR3 (ce_bx hR3 hw rv3) rfl rfl (fun h21 => ?_)
    refine rf_ck (fun h22 => ?_)
    refine p_I (s := 13) hR3 (sK5 hR3 hw) rfl ⟨rfl, rfl, by decide⟩ (e_mn rfl (e_sub rfl rfl) h19 h22) (min_r h19 h22) (fun g27 n25 hR26 => ?_)
    refine rf_ck (fun h28 => ?_)
    exact rf_ok (by exact ⟨⟨(e_add rfl (e_n 1)), h28⟩, hR26⟩)
noncomputable def nb_Layout_openAt_47 (v1 : Int) (v2 : Int) (n : NS) : Option ((Int × NS) ⊕ (NS)) :=
  if v2 < (n 5 0 17) then
    ix v2 120 <|
    ix (n 43 0 v2) 120 <|
    ck ((n 3 (n 43 0 v2) 3) + (n 3 (n 43 0 v2) 5)) <|
    ck (((n 3 (n 43 0 v2) 3) + (n 3 (n 43 0 v2) 5)) + (n 3 (n 43 0 v2) 6)) <|
    ck ((n 3 (n 43 0 v2) 3) - (n 3 (n 43 0 v2) 6)) <|
    if v1 < ((n 3 (n 43 0 v2) 3) - (n 3 (n 43 0 v2) 6)) then
      ck (v2 + 1) <|
      some (.inl (v2 + 1, n))
    else
      if v1 < (((n 3 (n 43 0 v2) 3) + (n 3 (n 43 0 v2) 5)) + (n 3 (n 43 0 v2) 6)) then
        if (n 5 0 14) = (-1) then
          nk_Layout_openAt_128 v1 v2 (n 43 0 v2) (((n 3 (n 43 0 v2) 3) + (n 3 (n 43 0 v2) 5)) + (n 3 (n 43 0 v2) 6)) n
        else
          nk_Layout_openAt_128 v1 v2 (n 43 0 v2) (min (n 5 0 14) (((n 3 (n 43 0 v2) 3) + (n 3 (n 43 0 v2) 5)) + (n 3 (n 43 0 v2) 6))) n
      else
        ck (v2 + 1) <|
        some (.inl (v2 + 1, n))
  else
    some (.inr n)
theorem fb_Layout_openAt_47 {w y : Prop} {g : g_S} {n : NS} {m : YS} (hw : w) {xv1 : Int32} {v1 : Int} (ev1 : xv1 = Int32.ofInt v1) (rv1 : inR v1) {xv2 : Int32} {v2 : Int} (ev2 : xv2 = Int32.ofInt v2) (rv2 : inR v2) (hR : RC w y g n m) : Rf (RS (fun a b => RI a.1 b.1 ∧ RC w y a.2 b.2 m) (fun a b => RC w y a b m)) (b_Layout_openAt_47 1661 xv1 xv2 g) (nb_Layout_openAt_47 v1 v2 n) := by
  subst ev1
  subst ev2
  unfold b_Layout_openAt_47 nb_Layout_openAt_47
  refine c_I (s := 17) hR (sK5 hR hw) rfl rfl (fun h1 => ?_)
  refine rf_lt rfl rfl rv2 h1 ?_ ?_
  · refine c_S hR hw (sK5 hR hw) (by decide) (show srf 5 0 2 = some 1662 from rfl) ?_
    refine c_S hR hw (sK5 hR hw) (by decide) (show srf 5 0 16 = some 1668 from rfl) ?_
    refine s_I (L := 120) hR (sA43 hR hw) rfl (lA43 hR hw) rfl rfl rv2 (fun h5 h6 => ?_)
    refine s_S (p := aBx (_)) (L := 120) hR hw (sA42 hR hw) (by decide) (lA42 hR hw) rfl rfl h6 (fun z1 z2 => srf42 z1 z2) (fun h7 => ?_)
    refine c_I (s := 3) hR (ce_bx hR hw (And.intro h7.1 (Int.le_of_lt h7.2))) rfl rfl (fun h9 => ?_)
    refine c_I (s := 5) hR (ce_bx hR hw (And.intro h7.1 (Int.le_of_lt h7.2))) rfl rfl (fun h10 => ?_)
    refine rf_ck (fun h11 => ?_)
    refine c_I (s := 6) hR (ce_bx hR hw (And.intro h7.1 (Int.le_of_lt h7.2))) rfl rfl (fun h12 => ?_)
    refine rf_ck (fun h13 => ?_)
    refine c_I (s := 3) hR (ce_bx hR hw (And.intro h7.1 (Int.le_of_lt h7.2))) rfl rfl (fun h14 => ?_)
    refine c_I (s := 6) hR (ce_bx hR hw (And.intro h7.1 (Int.le_of_lt h7.2))) rfl rfl (fun h15 => ?_)
    refine rf_ck (fun h16 => ?_)
    refine rf_lt rfl (e_sub rfl rfl) rv1 h16 ?_ ?_
    · refine rf_ck (fun h18 => ?_)
      exact rf_ok (by exact ⟨⟨(e_add rfl (e_n 1)), h18⟩, hR⟩)
    · refine rf_lt rfl (e_add (e_add rfl rfl) rfl) rv1 h13 ?_ ?_
      · refine c_I (s := 14) hR (sK5 hR hw) rfl rfl (fun h20 => ?_)
        refine rf_eq rfl (e_m 1) h20 (show inR (-1) by decide) ?_ ?_
        · exact fk_Layout_openAt_128 hw rfl rv1 rfl rv2 rfl (And.intro h7.1 (Int.le_of_lt h7.2)) (e_add (e_add rfl rfl) rfl) h13 hR
        · refine c_I (s := 14) hR (sK5 hR hw) rfl rfl (fun h22 => ?_)
          exact fk_Layout_openAt_128 hw rfl rv1 rfl rv2 rfl (And.intro h7.1 (Int.le_of_lt h7.2)) (e_mn rfl (e_add (e_add rfl rfl) rfl) h22 h13) (min_r h22 h13) hR
      · refine rf_ck (fun h24 => ?_)
        exact rf_ok (by exact ⟨⟨(e_add rfl (e_n 1)), h24⟩, hR⟩)
  · exact rf_ok (by exact hR)
noncomputable def NL_Layout_openAt_47 (v1 : Int) (v2 : Int) (n : NS) : Option (NS) :=
  it (fun s : Int × NS => nb_Layout_openAt_47 v1 s.1 s.2) (v2, n)
theorem fL_Layout_openAt_47 {w y : Prop} {g : g_S} {n : NS} {m : YS} (hw : w) {xv1 : Int32} {v1 : Int} (ev1 : xv1 = Int32.ofInt v1) (rv1 : inR v1) {xv2 : Int32} {v2 : Int} (ev2 : xv2 = Int32.ofInt v2) (rv2 : inR v2) (hR : RC w y g n m) : Rf (fun a b => RC w y a b m) (L_Layout_openAt_47 1661 xv1 xv2 g) (NL_Layout_openAt_47 v1 v2 n) := by
  subst ev1
  subst ev2
  unfold L_Layout_openAt_47 NL_Layout_openAt_47
  refine rf_it (I := (fun a b => RI a.1 b.1 ∧ RC w y a.2 b.2 m)) (fun s t h => ?_) ⟨⟨rfl, rv2⟩, hR⟩
  exact fb_Layout_openAt_47 hw rfl rv1 h.1.1 h.1.2 h.2
theorem NL_Layout_openAt_47_eq (v1 : Int) (v2 : Int) (n : NS) : NL_Layout_openAt_47 v1 v2 n = itc (nb_Layout_openAt_47 v1 v2 n) (fun s => NL_Layout_openAt_47 v1 s.1 s.2) := it_eq2 (fun s : Int × NS => nb_Layout_openAt_47 v1 s.1 s.2) (v2, n)
noncomputable def N_Layout_openAt (v1 : Int) (n : NS) : Option (NS) :=
  nn (n 5 0 8) <|
  st (nw n 5 0 12 (n 3 (n 5 0 8) 8)) fun n4 =>
  nn (n4 5 0 8) <|
  nn (n4 5 0 8) <|
  nn (n4 5 0 8) <|
  ck ((n4 3 (n4 5 0 8) 4) - (n4 3 (n4 5 0 8) 8)) <|
  st (nw n4 5 0 13 (max (n4 3 (n4 5 0 8) 8) ((n4 3 (n4 5 0 8) 4) - (n4 3 (n4 5 0 8) 8)))) fun n16 =>
  st (nw n16 5 0 14 (-1)) fun n20 =>
  (NL_Layout_openAt_47 v1 0 n20).bind <| fun n23 =>
  some n23
theorem f_Layout_openAt {w y : Prop} {g : g_S} {n : NS} {m : YS} (hw : w) {xv1 : Int32} {v1 : Int} (ev1 : xv1 = Int32.ofInt v1) (rv1 : inR v1) (hR : RC w y g n m) : Rf (fun a b => RC w y a b m) (M_Layout_openAt 1661 xv1 g) (N_Layout_openAt v1 n) := by
  subst ev1
  unfold M_Layout_openAt N_Layout_openAt
  refine c_B (s := 8) hR (sK5 hR hw) rfl rfl rfl (fun h1 => ?_)
  refine c_I (s := 8) hR (ce_bx hR hw h1) rfl rfl (fun h2 => ?_)
  refine p_I (s := 12) hR (sK5 hR hw) rfl ⟨rfl, rfl, by decide⟩ rfl h2 (fun g6 n4 hR5 => ?_)
  refine c_B (s := 8) hR5 (sK5 hR5 hw) rfl rfl rfl (fun h7 => ?_)
  refine c_I (s := 8) hR5 (ce_bx hR5 hw h7) rfl rfl (fun h8 => ?_)
  refine c_B (s := 8) hR5 (sK5 hR5 hw) rfl rfl rfl (fun h9 => ?_)
  refine c_I (s := 4) hR5 (ce_bx hR5 hw h9) rfl rfl (fun h10 => ?_)
  refine c_B (s := 8) hR5 (sK5 hR5 hw) rfl rfl rfl (fun h11 => ?_)
  refine c_I (s := 8) hR5 (ce_bx hR5 hw h11) rfl rfl (fun h12 => ?_)
  refine rf_ck (fun h13 => ?_)
  refine p_I (s := 13) hR5 (sK5 hR5 hw) rfl ⟨rfl, rfl, by decide⟩ (e_mx rfl (e_sub rfl rfl) h8 h13) (max_r h8 h13) (fun g18 n16 hR17 => ?_)
  refine p_I (s := 14) hR17 (sK5 hR17 hw) rfl ⟨rfl, rfl, by decide⟩ (e_m 1) (show inR (-1) by decide) (fun g22 n20 hR21 => ?_)
  refine rf_bind (fL_Layout_openAt_47 hw rfl rv1 (e_n 0) (show inR 0 by decide) hR21) (fun a24 n23 h => ?_)
  have hR25 : RC w y a24 n23 m := h
  exact rf_ok (by exact hR25)
noncomputable def N_Layout_startFlow (v1 : Int) (n : NS) : Option (NS) :=
  st (nw n 5 0 8 v1) fun n2 =>
  st (nw n2 5 0 17 0) fun n6 =>
  st (nw n6 5 0 18 0) fun n10 =>
  st (nw n10 5 0 19 (n10 3 v1 8)) fun n15 =>
  st (nw n15 5 0 10 0) fun n19 =>
  st (nw n19 5 0 11 (n19 3 v1 8)) fun n24 =>
  st (nw n24 5 0 15 0) fun n28 =>
  (N_Layout_openAt (n28 5 0 11) n28).bind fun n33 =>
  some n33
theorem f_Layout_startFlow {w y : Prop} {g : g_S} {n : NS} {m : YS} (hw : w) {xv1 : Nat} {v1 : Int} (ev1 : xv1 = aBx v1) (rv1 : 0 ≤ v1 ∧ v1 ≤ 120) (hR : RC w y g n m) : Rf (fun a b => RC w y a b m) (M_Layout_startFlow 1661 xv1 g) (N_Layout_startFlow v1 n) := by
  subst ev1
  unfold M_Layout_startFlow N_Layout_startFlow
  refine p_R (s := 8) (a := _) hR (sK5 hR hw) rfl rfl rfl (rc_x rv1) (fun g4 n2 hR3 => ?_)
  refine p_I (s := 17) hR3 (sK5 hR3 hw) rfl ⟨rfl, rfl, by decide⟩ (e_n 0) (show inR 0 by decide) (fun g8 n6 hR7 => ?_)
  refine p_I (s := 18) hR7 (sK5 hR7 hw) rfl ⟨rfl, rfl, by decide⟩ (e_n 0) (show inR 0 by decide) (fun g12 n10 hR11 => ?_)
  refine c_I (s := 8) hR11 (ce_bx hR11 hw rv1) rfl rfl (fun h13 => ?_)
  refine p_I (s := 19) hR11 (sK5 hR11 hw) rfl ⟨rfl, rfl, by decide⟩ rfl h13 (fun g17 n15 hR16 => ?_)
  refine p_I (s := 10) hR16 (sK5 hR16 hw) rfl ⟨rfl, rfl, by decide⟩ (e_n 0) (show inR 0 by decide) (fun g21 n19 hR20 => ?_)
  refine c_I (s := 8) hR20 (ce_bx hR20 hw rv1) rfl rfl (fun h22 => ?_)
  refine p_I (s := 11) hR20 (sK5 hR20 hw) rfl ⟨rfl, rfl, by decide⟩ rfl h22 (fun g26 n24 hR25 => ?_)
  refine p_Z (s := 15) hR25 (sK5 hR25 hw) rfl ⟨rfl, by decide⟩ (e_n 0) (.inl rfl) (fun g30 n28 hR29 => ?_)
  refine c_I (s := 11) hR29 (sK5 hR29 hw) rfl rfl (fun h31 => ?_)
  refine v_c (sK5 hR29 hw).1 ?_
  refine rf_bind (f_Layout_openAt hw rfl h31 hR29) (fun g35 n33 hR34 => ?_)
  exact rf_ok (by exact hR34)
noncomputable def N_Layout_wordHeight (v1 : Int) (n : NS) : Option (Int) :=
  nn (n 5 0 5) <|
  ck (v1 * 6) <|
  dx n (n 5 0 5) 0 (v1 * 6) <|
  ix (n 99 (n 5 0 5) (v1 * 6)) 120 <|
  ck (7 * (n 3 (n 99 (n 5 0 5) (v1 * 6)) 11)) <|
  some (7 * (n 3 (n 99 (n 5 0 5) (v1 * 6)) 11))
theorem f_Layout_wordHeight {w y : Prop} {g : g_S} {n : NS} {m : YS} (hw : w) {xv1 : Int32} {v1 : Int} (ev1 : xv1 = Int32.ofInt v1) (rv1 : inR v1) (hR : RC w y g n m) : Rf (fun a b => RI a b) (M_Layout_wordHeight 1661 xv1 g) (N_Layout_wordHeight v1 n) := by
  subst ev1
  unfold M_Layout_wordHeight N_Layout_wordHeight
  refine c_S hR hw (sK5 hR hw) (by decide) (show srf 5 0 2 = some 1662 from rfl) ?_
  refine c_D (s := 5) hR (sK5 hR hw) rfl rfl rfl (fun h2 => ?_)
  refine rf_ck (fun h3 => ?_)
  refine d_I hR h2 (e_mul rfl (e_n 6)) h3 (fun h4 h5 => ?_)
  refine s_S (p := aBx (_)) (L := 120) hR hw (sA42 hR hw) (by decide) (lA42 hR hw) rfl rfl h5 (fun z1 z2 => srf42 z1 z2) (fun h6 => ?_)
  refine c_I (s := 11) hR (ce_bx hR hw (And.intro h6.1 (Int.le_of_lt h6.2))) rfl rfl (fun h8 => ?_)
  refine rf_ck (fun h9 => ?_)
  exact rf_ok (by exact ⟨(e_mul (e_n 7) rfl), h9⟩)
noncomputable def nb_Layout_putFloat_7 (v1 : Int) (v2 : Int) (v3 : Int) (n : NS) : Option ((Int × Int) ⊕ (Int)) :=
  if v3 < (n 5 0 17) then
    ix v3 120 <|
    ix (n 43 0 v3) 120 <|
    ck ((n 3 (n 43 0 v3) 3) - (n 3 (n 43 0 v3) 6)) <|
    ck (v3 + 1) <|
    some (.inl (max v2 ((n 3 (n 43 0 v3) 3) - (n 3 (n 43 0 v3) 6)), v3 + 1))
  else
    some (.inr v2)
theorem fb_Layout_putFloat_7 {w y : Prop} {g : g_S} {n : NS} {m : YS} (hw : w) {xv1 : Nat} {v1 : Int} (ev1 : xv1 = aBx v1) (rv1 : 0 ≤ v1 ∧ v1 ≤ 120) {xv2 : Int32} {v2 : Int} (ev2 : xv2 = Int32.ofInt v2) (rv2 : inR v2) {xv3 : Int32} {v3 : Int} (ev3 : xv3 = Int32.ofInt v3) (rv3 : inR v3) (hR : RC w y g n m) : Rf (RS (fun a b => RI a.1 b.1 ∧ RI a.2 b.2) (fun a b => RI a b)) (b_Layout_putFloat_7 1661 xv1 xv2 xv3 g) (nb_Layout_putFloat_7 v1 v2 v3 n) := by
  subst ev1
  subst ev2
  subst ev3
  unfold b_Layout_putFloat_7 nb_Layout_putFloat_7
  refine c_I (s := 17) hR (sK5 hR hw) rfl rfl (fun h1 => ?_)
  refine rf_lt rfl rfl rv3 h1 ?_ ?_
  · refine c_S hR hw (sK5 hR hw) (by decide) (show srf 5 0 2 = some 1662 from rfl) ?_
    refine c_S hR hw (sK5 hR hw) (by decide) (show srf 5 0 16 = some 1668 from rfl) ?_
    refine s_I (L := 120) hR (sA43 hR hw) rfl (lA43 hR hw) rfl rfl rv3 (fun h5 h6 => ?_)
    refine s_S (p := aBx (_)) (L := 120) hR hw (sA42 hR hw) (by decide) (lA42 hR hw) rfl rfl h6 (fun z1 z2 => srf42 z1 z2) (fun h7 => ?_)
    refine c_I (s := 3) hR (ce_bx hR hw (And.intro h7.1 (Int.le_of_lt h7.2))) rfl rfl (fun h9 => ?_)
    refine c_I (s := 6) hR (ce_bx hR hw (And.intro h7.1 (Int.le_of_lt h7.2))) rfl rfl (fun h10 => ?_)
    refine rf_ck (fun h11 => ?_)
    refine rf_ck (fun h13 => ?_)
    exact rf_ok (by exact ⟨⟨(e_mx rfl (e_sub rfl rfl) rv2 h11), (max_r rv2 h11)⟩, ⟨(e_add rfl (e_n 1)), h13⟩⟩)
  · exact rf_ok (by exact ⟨rfl, rv2⟩)
noncomputable def NL_Layout_putFloat_7 (v1 : Int) (v2 : Int) (v3 : Int) (n : NS) : Option (Int) :=
  it (fun s : Int × Int => nb_Layout_putFloat_7 v1 s.1 s.2 n) (v2, v3)
theorem fL_Layout_putFloat_7 {w y : Prop} {g : g_S} {n : NS} {m : YS} (hw : w) {xv1 : Nat} {v1 : Int} (ev1 : xv1 = aBx v1) (rv1 : 0 ≤ v1 ∧ v1 ≤ 120) {xv2 : Int32} {v2 : Int} (ev2 : xv2 = Int32.ofInt v2) (rv2 : inR v2) {xv3 : Int32} {v3 : Int} (ev3 : xv3 = Int32.ofInt v3) (rv3 : inR v3) (hR : RC w y g n m) : Rf (fun a b => RI a b) (L_Layout_putFloat_7 1661 xv1 xv2 xv3 g) (NL_Layout_putFloat_7 v1 v2 v3 n) := by
  subst ev1
  subst ev2
  subst ev3
  unfold L_Layout_putFloat_7 NL_Layout_putFloat_7
  refine rf_it (I := (fun a b => RI a.1 b.1 ∧ RI a.2 b.2)) (fun s t h => ?_) ⟨⟨rfl, rv2⟩, ⟨rfl, rv3⟩⟩
  exact fb_Layout_putFloat_7 hw rfl rv1 h.1.1 h.1.2 h.2.1 h.2.2 hR
theorem NL_Layout_putFloat_7_eq (v1 : Int) (v2 : Int) (v3 : Int) (n : NS) : NL_Layout_putFloat_7 v1 v2 v3 n = itc (nb_Layout_putFloat_7 v1 v2 v3 n) (fun s => NL_Layout_putFloat_7 v1 s.1 s.2 n) := it_eq2 (fun s : Int × Int => nb_Layout_putFloat_7 v1 s.1 s.2 n) (v2, v3)
noncomputable def nb_Layout_putFloat_70 (v1 : Int) (v3 : Int) (v2 : Int) (v4 : Int) (n : NS) : Option ((Int × Int × NS) ⊕ (Int × NS)) :=
  if 120 < v4 then
    some (.inr (v2, n))
  else
    ck ((n 5 0 13) - (n 5 0 12)) <|
    if ((n 5 0 13) - (n 5 0 12)) < v3 then
      if (n 5 0 14) = (-1) then
        some (.inr (v2, n))
      else
        (N_Layout_openAt (n 5 0 14) n).bind fun n10 =>
        ck (v4 + 1) <|
        some (.inl ((n 5 0 14), v4 + 1, n10))
    else
      some (.inr (v2, n))
theorem fb_Layout_putFloat_70 {w y : Prop} {g : g_S} {n : NS} {m : YS} (hw : w) {xv1 : Nat} {v1 : Int} (ev1 : xv1 = aBx v1) (rv1 : 0 ≤ v1 ∧ v1 ≤ 120) {xv3 : Int32} {v3 : Int} (ev3 : xv3 = Int32.ofInt v3) (rv3 : inR v3) {xv2 : Int32} {v2 : Int} (ev2 : xv2 = Int32.ofInt v2) (rv2 : inR v2) {xv4 : Int32} {v4 : Int} (ev4 : xv4 = Int32.ofInt v4) (rv4 : inR v4) (hR : RC w y g n m) : Rf (RS (fun a b => RI a.1 b.1 ∧ RI a.2.1 b.2.1 ∧ RC w y a.2.2 b.2.2 m) (fun a b => RI a.1 b.1 ∧ RC w y a.2 b.2 m)) (b_Layout_putFloat_70 1661 xv1 xv3 xv2 xv4 g) (nb_Layout_putFloat_70 v1 v3 v2 v4 n) := by
  subst ev1
  subst ev3
  subst ev2
  subst ev4
  unfold b_Layout_putFloat_70 nb_Layout_putFloat_70
  refine rf_lt (e_n 120) rfl (show inR 120 by decide) rv4 ?_ ?_
  · exact rf_ok (by exact ⟨⟨rfl, rv2⟩, hR⟩)
  · refine c_I (s := 13) hR (sK5 hR hw) rfl rfl (fun h2 => ?_)
    refine c_I (s := 12) hR (sK5 hR hw) rfl rfl (fun h3 => ?_)
    refine rf_ck (fun h4 => ?_)
    refine rf_lt (e_sub rfl rfl) rfl h4 rv3 ?_ ?_
    · refine c_I (s := 14) hR (sK5 hR hw) rfl rfl (fun h6 => ?_)
      refine rf_eq rfl (e_m 1) h6 (show inR (-1) by decide) ?_ ?_
      · exact rf_ok (by exact ⟨⟨rfl, rv2⟩, hR⟩)
      · refine c_I (s := 14) hR (sK5 hR hw) rfl rfl (fun h8 => ?_)
        refine v_c (sK5 hR hw).1 ?_
        refine rf_bind (f_Layout_openAt hw rfl h8 hR) (fun g12 n10 hR11 => ?_)
        refine rf_ck (fun h13 => ?_)
        exact rf_ok (by exact ⟨⟨rfl, h8⟩, ⟨(e_add rfl (e_n 1)), h13⟩, hR11⟩)
    · exact rf_ok (by exact ⟨⟨rfl, rv2⟩, hR⟩)
noncomputable def NL_Layout_putFloat_70 (v1 : Int) (v3 : Int) (v2 : Int) (v4 : Int) (n : NS) : Option (Int × NS) :=
  it (fun s : Int × Int × NS => nb_Layout_putFloat_70 v1 v3 s.1 s.2.1 s.2.2) (v2, v4, n)
theorem fL_Layout_putFloat_70 {w y : Prop} {g : g_S} {n : NS} {m : YS} (hw : w) {xv1 : Nat} {v1 : Int} (ev1 : xv1 = aBx v1) (rv1 : 0 ≤ v1 ∧ v1 ≤ 120) {xv3 : Int32} {v3 : Int} (ev3 : xv3 = Int32.ofInt v3) (rv3 : inR v3) {xv2 : Int32} {v2 : Int} (ev2 : xv2 = Int32.ofInt v2) (rv2 : inR v2) {xv4 : Int32} {v4 : Int} (ev4 : xv4 = Int32.ofInt v4) (rv4 : inR v4) (hR : RC w y g n m) : Rf (fun a b => RI a.1 b.1 ∧ RC w y a.2 b.2 m) (L_Layout_putFloat_70 1661 xv1 xv3 xv2 xv4 g) (NL_Layout_putFloat_70 v1 v3 v2 v4 n) := by
  subst ev1
  subst ev3
  subst ev2
  subst ev4
  unfold L_Layout_putFloat_70 NL_Layout_putFloat_70
  refine rf_it (I := (fun a b => RI a.1 b.1 ∧ RI a.2.1 b.2.1 ∧ RC w y a.2.2 b.2.2 m)) (fun s t h => ?_) ⟨⟨rfl, rv2⟩, ⟨rfl, rv4⟩, hR⟩
  exact fb_Layout_putFloat_70 hw rfl rv1 rfl rv3 h.1.1 h.1.2 h.2.1.1 h.2.1.2 h.2.2
theorem NL_Layout_putFloat_70_eq (v1 : Int) (v3 : Int) (v2 : Int) (v4 : Int) (n : NS) : NL_Layout_putFloat_70 v1 v3 v2 v4 n = itc (nb_Layout_putFloat_70 v1 v3 v2 v4 n) (fun s => NL_Layout_putFloat_70 v1 v3 s.1 s.2.1 s.2.2) := it_eq2 (fun s : Int × Int × NS => nb_Layout_putFloat_70 v1 v3 s.1 s.2.1 s.2.2) (v2, v4, n)
noncomputable def nk_Layout_putFloat_149 (v1 : Int) (v2 : Int) (w0 : Int) (w1 : Int) (n : NS) : Option (NS) :=
  st (nw n 3 w1 2 w0) fun n2 =>
  ck (v2 + (n2 3 v1 6)) <|
  st (nw n2 3 v1 3 (v2 + (n2 3 v1 6))) fun n8 =>
  ck ((n8 3 v1 3) + (n8 3 v1 5)) <|
  ck (((n8 3 v1 3) + (n8 3 v1 5)) + (n8 3 v1 6)) <|
  st (nw n8 5 0 19 (max (n8 5 0 19) (((n8 3 v1 3) + (n8 3 v1 5)) + (n8 3 v1 6)))) fun n19 =>
  some n19
theorem fk_Layout_putFloat_149 {w y : Prop} {g : g_S} {n : NS} {m : YS} (hw : w) {xv1 : Nat} {v1 : Int} (ev1 : xv1 = aBx v1) (rv1 : 0 ≤ v1 ∧ v1 ≤ 120) {xv2 : Int32} {v2 : Int} (ev2 : xv2 = Int32.ofInt v2) (rv2 : inR v2) {xw0 : Int32} {w0 : Int} (ew0 : xw0 = Int32.ofInt w0) (rw0 : inR w0) {xw1 : Nat} {w1 : Int} (ew1 : xw1 = aBx w1) (rw1 : 0 ≤ w1 ∧ w1 ≤ 120) (hR : RC w y g n m) : Rf (fun a b => RC w y a b m) (k_Layout_putFloat_149 1661 xv1 xv2 xw0 xw1 g) (nk_Layout_putFloat_149 v1 v2 w0 w1 n) := by
  subst ev1
  subst ev2
  subst ew0
  subst ew1
  unfold k_Layout_putFloat_149 nk_Layout_putFloat_149
  refine p_I (s := 2) hR (ce_bx hR hw rw1) rfl ⟨rfl, rfl, by decide⟩ rfl rw0 (fun g4 n2 hR3 => ?_)
  refine c_I (s := 6) hR3 (ce_bx hR3 hw rv1) rfl rfl (fun h5 => ?_)
  refine rf_ck (fun h6 => ?_)
  refine p_I (s := 3) hR3 (ce_bx hR3 hw rv1) rfl ⟨rfl, rfl, by decide⟩ (e_add rfl rfl) h6 (fun g10 n8 hR9 => ?_)
  refine c_I (s := 19) hR9 (sK5 hR9 hw) rfl rfl (fun h11 => ?_)
  refine c_I (s := 3) hR9 (ce_bx hR9 hw rv1) rfl rfl (fun h12 => ?_)
  refine c_I (s := 5) hR9 (ce_bx hR9 hw rv1) rfl rfl (fun h13 => ?_)
  refine rf_ck (fun h14 => ?_)
  refine c_I (s := 6) hR9 (ce_bx hR9 hw rv1) rfl rfl (fun h15 => ?_)
  refine rf_ck (fun h16 => ?_)
  refine p_I (s := 19) hR9 (sK5 hR9 hw) rfl ⟨rfl, rfl, by decide⟩ (e_mx rfl (e_add (e_add rfl rfl) rfl) h11 h16) (max_r h11 h16) (fun g21 n19 hR20 => ?_)
  exact rf_ok (by exact hR20)
noncomputable def nk_Layout_putFloat_114 (v1 : Int) (v2 : Int) (n : NS) : Option (NS) :=
  if (n 3 v1 13) = 1 then
    ck ((n 5 0 12) + (n 3 v1 6)) <|
    nk_Layout_putFloat_149 v1 v2 ((n 5 0 12) + (n 3 v1 6)) v1 n
  else
    ck ((n 5 0 13) - (n 3 v1 6)) <|
    ck (((n 5 0 13) - (n 3 v1 6)) - (n 3 v1 4)) <|
    nk_Layout_putFloat_149 v1 v2 (((n 5 0 13) - (n 3 v1 6)) - (n 3 v1 4)) v1 n
theorem fk_Layout_putFloat_114 {w y : Prop} {g : g_S} {n : NS} {m : YS} (hw : w) {xv1 : Nat} {v1 : Int} (ev1 : xv1 = aBx v1) (rv1 : 0 ≤ v1 ∧ v1 ≤ 120) {xv2 : Int32} {v2 : Int} (ev2 : xv2 = Int32.ofInt v2) (rv2 : inR v2) (hR : RC w y g n m) : Rf (fun a b => RC w y a b m) (k_Layout_putFloat_114 1661 xv1 xv2 g) (nk_Layout_putFloat_114 v1 v2 n) := by
  subst ev1
  subst ev2
  unfold k_Layout_putFloat_114 nk_Layout_putFloat_114
  refine c_I (s := 13) hR (ce_bx hR hw rv1) rfl rfl (fun h1 => ?_)
  refine rf_eq rfl (e_n 1) h1 (show inR 1 by decide) ?_ ?_
  · refine c_I (s := 12) hR (sK5 hR hw) rfl rfl (fun h3 => ?_)
    refine c_I (s := 6) hR (ce_bx hR hw rv1) rfl rfl (fun h4 => ?_)
    refine rf_ck (fun h5 => ?_)
    exact fk_Layout_putFloat_149 hw rfl rv1 rfl rv2 (e_add rfl rfl) h5 rfl rv1 hR
  · refine c_I (s := 13) hR (sK5 hR hw) rfl rfl (fun h6 => ?_)
    refine c_I (s := 6) hR (ce_bx hR hw rv1) rfl rfl (fun h7 => ?_)
    refine rf_ck (fun h8 => ?_)
    refine c_I (s := 4) hR (ce_bx hR hw rv1) rfl rfl (fun h9 => ?_)
    refine rf_ck (fun h10 => ?_)
    exact fk_Layout_putFloat_149 hw rfl rv1 rfl rv2 (e_sub (e_sub rfl rfl) rfl) h10 rfl rv1 hR
noncomputable def N_Layout_putFloat (v1 : Int) (n : NS) : Option (NS) :=
  (NL_Layout_putFloat_7 v1 (n 5 0 11) 0 n).bind <| fun z2 =>
  ck (2 * (n 3 v1 6)) <|
  ck ((n 3 v1 4) + (2 * (n 3 v1 6))) <|
  (N_Layout_openAt z2 n).bind fun n10 =>
  (NL_Layout_putFloat_70 v1 ((n 3 v1 4) + (2 * (n 3 v1 6))) z2 0 n10).bind <| u2 fun z13 n14 =>
  nk_Layout_putFloat_114 v1 z13 n14
theorem f_Layout_putFloat {w y : Prop} {g : g_S} {n : NS} {m : YS} (hw : w) {xv1 : Nat} {v1 : Int} (ev1 : xv1 = aBx v1) (rv1 : 0 ≤ v1 ∧ v1 ≤ 120) (hR : RC w y g n m) : Rf (fun a b => RC w y a b m) (M_Layout_putFloat 1661 xv1 g) (N_Layout_putFloat v1 n) := by
  subst ev1
  unfold M_Layout_putFloat N_Layout_putFloat
  refine c_I (s := 11) hR (sK5 hR hw) rfl rfl (fun h1 => ?_)
  refine rf_bind (fL_Layout_putFloat_7 hw rfl rv1 rfl h1 (e_n 0) (show inR 0 by decide) hR) (fun a3 z2 h => ?_)
  obtain ⟨rfl, r4⟩ := (show RI a3 z2 from h)
  refine c_I (s := 4) hR (ce_bx hR hw rv1) rfl rfl (fun h5 => ?_)
  refine c_I (s := 6) hR (ce_bx hR hw rv1) rfl rfl (fun h6 => ?_)
  refine rf_ck (fun h7 => ?_)
  refine rf_ck (fun h8 => ?_)
  refine v_c (sK5 hR hw).1 ?_
  refine rf_bind (f_Layout_openAt hw rfl r4 hR) (fun g12 n10 hR11 => ?_)
  refine rf_bind (fL_Layout_putFloat_70 hw rfl rv1 (e_add rfl (e_mul (e_n 2) rfl)) h8 rfl r4 (e_n 0) (show inR 0 by decide) hR11) (fun a b h => ?_)
  obtain ⟨a15, a16⟩ := a
  obtain ⟨z13, n14⟩ := b
  refine rf_u2 ?_
  obtain ⟨rfl, r18⟩ := (show RI a15 z13 from h.1)
  have hR17 : RC w y a16 n14 m := h.2
  exact fk_Layout_putFloat_114 hw rfl rv1 rfl r18 hR17
noncomputable def nb_Layout_closeLine_247 (n : NS) : Option ((NS) ⊕ (NS)) :=
  if (n 5 0 17) < (n 5 0 18) then
    ix (n 5 0 17) 120 <|
    ix (n 43 0 (n 5 0 17)) 120 <|
    (N_Layout_putFloat (n 43 0 (n 5 0 17)) n).bind fun n12 =>
    ck ((n12 5 0 17) + 1) <|
    st (nw n12 5 0 17 ((n12 5 0 17) + 1)) fun n18 =>
    some (.inl n18)
  else
    some (.inr n)
theorem fb_Layout_closeLine_247 {w y : Prop} {g : g_S} {n : NS} {m : YS} (hw : w) (hR : RC w y g n m) : Rf (RS (fun a b => RC w y a b m) (fun a b => RC w y a b m)) (b_Layout_closeLine_247 1661 g) (nb_Layout_closeLine_247 n) := by
  unfold b_Layout_closeLine_247 nb_Layout_closeLine_247
  refine c_I (s := 17) hR (sK5 hR hw) rfl rfl (fun h1 => ?_)
  refine c_I (s := 18) hR (sK5 hR hw) rfl rfl (fun h2 => ?_)
  refine rf_lt rfl rfl h1 h2 ?_ ?_
  · refine c_S hR hw (sK5 hR hw) (by decide) (show srf 5 0 2 = some 1662 from rfl) ?_
    refine c_S hR hw (sK5 hR hw) (by decide) (show srf 5 0 16 = some 1668 from rfl) ?_
    refine c_I (s := 17) hR (sK5 hR hw) rfl rfl (fun h6 => ?_)
    refine s_I (L := 120) hR (sA43 hR hw) rfl (lA43 hR hw) rfl rfl h6 (fun h7 h8 => ?_)
    refine s_S (p := aBx (_)) (L := 120) hR hw (sA42 hR hw) (by decide) (lA42 hR hw) rfl rfl h8 (fun z1 z2 => srf42 z1 z2) (fun h9 => ?_)
    refine v_c (sK5 hR hw).1 ?_
    refine rf_bind (f_Layout_putFloat hw rfl (And.intro h9.1 (Int.le_of_lt h9.2)) hR) (fun g14 n12 hR13 => ?_)
    refine c_I (s := 17) hR13 (sK5 hR13 hw) rfl rfl (fun h15 => ?_)
    refine rf_ck (fun h16 => ?_)
    refine p_I (s := 17) hR13 (sK5 hR13 hw) rfl ⟨rfl, rfl, by decide⟩ (e_add rfl (e_n 1)) h16 (fun g20 n18 hR19 => ?_)
    exact rf_ok (by exact hR19)
  · exact rf_ok (by exact hR)
noncomputable def NL_Layout_closeLine_247 (n : NS) : Option (NS) :=
  it (fun s : NS => nb_Layout_closeLine_247 s) (n)
theorem fL_Layout_closeLine_247 {w y : Prop} {g : g_S} {n : NS} {m : YS} (hw : w) (hR : RC w y g n m) : Rf (fun a b => RC w y a b m) (L_Layout_closeLine_247 1661 g) (NL_Layout_closeLine_247 n) := by
  unfold L_Layout_closeLine_247 NL_Layout_closeLine_247
  refine rf_it (I := (fun a b => RC w y a b m)) (fun s t h => ?_) hR
  exact fb_Layout_closeLine_247 hw h
theorem NL_Layout_closeLine_247_eq (n : NS) : NL_Layout_closeLine_247 n = itc (nb_Layout_closeLine_247 n) (fun s => NL_Layout_closeLine_247 s) := it_eq2 (fun s : NS => nb_Layout_closeLine_247 s) (n)
noncomputable def nk_Layout_closeLine_111 (v2 : Int) (v4 : Int) (w0 : Int) (w1 : Int) (n : NS) : Option ((Int × Int) ⊕ (Int)) :=
  ck (v4 + 1) <|
  some (.inl (max w1 w0, v4 + 1))
theorem fk_Layout_closeLine_111 {w y : Prop} {g : g_S} {n : NS} {m : YS} (hw : w) {xv2 : Int32} {v2 : Int} (ev2 : xv2 = Int32.ofInt v2) (rv2 : inR v2) {xv4 : Int32} {v4 : Int} (ev4 : xv4 = Int32.ofInt v4) (rv4 : inR v4) {xw0 : Int32} {w0 : Int} (ew0 : xw0 = Int32.ofInt w0) (rw0 : inR w0) {xw1 : Int32} {w1 : Int} (ew1 : xw1 = Int32.ofInt w1) (rw1 : inR w1) (hR : RC w y g n m) : Rf (RS (fun a b => RI a.1 b.1 ∧ RI a.2 b.2) (fun a b => RI a b)) (k_Layout_closeLine_111 1661 xv2 xv4 xw0 xw1 g) (nk_Layout_closeLine_111 v2 v4 w0 w1 n) := by
  subst ev2
  subst ev4
  subst ew0
  subst ew1
  unfold k_Layout_closeLine_111 nk_Layout_closeLine_111
  refine rf_ck (fun h2 => ?_)
  exact rf_ok (by exact ⟨⟨(e_mx rfl rfl rw1 rw0), (max_r rw1 rw0)⟩, ⟨(e_add rfl (e_n 1)), h2⟩⟩)
noncomputable def nb_Layout_closeLine_60 (v2 : Int) (v3 : Int) (v4 : Int) (n : NS) : Option ((Int × Int) ⊕ (Int)) :=
  if v4 < (n 5 0 10) then
    nn (n 5 0 9) <|
    dx n (n 5 0 9) 0 v4 <|
    if (n 99 (n 5 0 9) v4) < 0 then
      nn (n 5 0 9) <|
      dx n (n 5 0 9) 0 v4 <|
      ck ((-1) - (n 99 (n 5 0 9) v4)) <|
      ix ((-1) - (n 99 (n 5 0 9) v4)) 120 <|
      nk_Layout_closeLine_111 v2 v4 (n 3 ((-1) - (n 99 (n 5 0 9) v4)) 5) v3 n
    else
      nn (n 5 0 9) <|
      dx n (n 5 0 9) 0 v4 <|
      (N_Layout_wordHeight (n 99 (n 5 0 9) v4) n).bind fun z19 =>
      nk_Layout_closeLine_111 v2 v4 z19 v3 n
  else
    some (.inr v3)
theorem fb_Layout_closeLine_60 {w y : Prop} {g : g_S} {n : NS} {m : YS} (hw : w) {xv2 : Int32} {v2 : Int} (ev2 : xv2 = Int32.ofInt v2) (rv2 : inR v2) {xv3 : Int32} {v3 : Int} (ev3 : xv3 = Int32.ofInt v3) (rv3 : inR v3) {xv4 : Int32} {v4 : Int} (ev4 : xv4 = Int32.ofInt v4) (rv4 : inR v4) (hR : RC w y g n m) : Rf (RS (fun a b => RI a.1 b.1 ∧ RI a.2 b.2) (fun a b => RI a b)) (b_Layout_closeLine_60 1661 xv2 xv3 xv4 g) (nb_Layout_closeLine_60 v2 v3 v4 n) := by
  subst ev2
  subst ev3
  subst ev4
  unfold b_Layout_closeLine_60 nb_Layout_closeLine_60
  refine c_I (s := 10) hR (sK5 hR hw) rfl rfl (fun h1 => ?_)
  refine rf_lt rfl rfl rv4 h1 ?_ ?_
  · refine c_D (s := 9) hR (sK5 hR hw) rfl rfl rfl (fun h3 => ?_)
    refine d_I hR h3 rfl rv4 (fun h4 h5 => ?_)
    refine rf_lt rfl (e_n 0) h5 (show inR 0 by decide) ?_ ?_
    · refine c_S hR hw (sK5 hR hw) (by decide) (show srf 5 0 2 = some 1662 from rfl) ?_
      refine c_D (s := 9) hR (sK5 hR hw) rfl rfl rfl (fun h8 => ?_)
      refine d_I hR h8 rfl rv4 (fun h9 h10 => ?_)
      refine rf_ck (fun h11 => ?_)
      refine s_S (p := aBx (_)) (L := 120) hR hw (sA42 hR hw) (by decide) (lA42 hR hw) rfl (e_sub (e_m 1) rfl) h11 (fun z1 z2 => srf42 z1 z2) (fun h12 => ?_)
      refine c_I (s := 5) hR (ce_bx hR hw (And.intro h12.1 (Int.le_of_lt h12.2))) rfl rfl (fun h14 => ?_)
      exact fk_Layout_closeLine_111 hw rfl rv2 rfl rv4 rfl h14 rfl rv3 hR
    · refine c_D (s := 9) hR (sK5 hR hw) rfl rfl rfl (fun h15 => ?_)
      refine d_I hR h15 rfl rv4 (fun h16 h17 => ?_)
      refine v_c (sK5 hR hw).1 ?_
      refine rf_bind (f_Layout_wordHeight hw rfl h17 hR) (fun a21 z19 h => ?_)
      obtain ⟨rfl, r20⟩ := h
      exact fk_Layout_closeLine_111 hw rfl rv2 rfl rv4 rfl r20 rfl rv3 hR
  · exact rf_ok (by exact ⟨rfl, rv3⟩)
noncomputable def NL_Layout_closeLine_60 (v2 : Int) (v3 : Int) (v4 : Int) (n : NS) : Option (Int) :=
  it (fun s : Int × Int => nb_Layout_closeLine_60 v2 s.1 s.2 n) (v3, v4)
theorem fL_Layout_closeLine_60 {w y : Prop} {g : g_S} {n : NS} {m : YS} (hw : w) {xv2 : Int32} {v2 : Int} (ev2 : xv2 = Int32.ofInt v2) (rv2 : inR v2) {xv3 : Int32} {v3 : Int} (ev3 : xv3 = Int32.ofInt v3) (rv3 : inR v3) {xv4 : Int32} {v4 : Int} (ev4 : xv4 = Int32.ofInt v4) (rv4 : inR v4) (hR : RC w y g n m) : Rf (fun a b => RI a b) (L_Layout_closeLine_60 1661 xv2 xv3 xv4 g) (NL_Layout_closeLine_60 v2 v3 v4 n) := by
  subst ev2
  subst ev3
  subst ev4
  unfold L_Layout_closeLine_60 NL_Layout_closeLine_60
  refine rf_it (I := (fun a b => RI a.1 b.1 ∧ RI a.2 b.2)) (fun s t h => ?_) ⟨⟨rfl, rv3⟩, ⟨rfl, rv4⟩⟩
  exact fb_Layout_closeLine_60 hw rfl rv2 h.1.1 h.1.2 h.2.1 h.2.2 hR
theorem NL_Layout_closeLine_60_eq (v2 : Int) (v3 : Int) (v4 : Int) (n : NS) : NL_Layout_closeLine_60 v2 v3 v4 n = itc (nb_Layout_closeLine_60 v2 v3 v4 n) (fun s => NL_Layout_closeLine_60 v2 s.1 s.2 n) := it_eq2 (fun s : Int × Int => nb_Layout_closeLine_60 v2 s.1 s.2 n) (v3, v4)
noncomputable def nb_Layout_closeLine_134 (v2 : Int) (v4 : Int) (n : NS) : Option ((Int × NS) ⊕ (NS)) :=
  if v4 < (n 5 0 10) then
    nn (n 5 0 9) <|
    dx n (n 5 0 9) 0 v4 <|
    if (n 99 (n 5 0 9) v4) < 0 then
      ck ((-1) - (n 99 (n 5 0 9) v4)) <|
      ix ((-1) - (n 99 (n 5 0 9) v4)) 120 <|
      ck ((n 3 ((-1) - (n 99 (n 5 0 9) v4)) 2) + v2) <|
      st (nw n 3 ((-1) - (n 99 (n 5 0 9) v4)) 2 ((n 3 ((-1) - (n 99 (n 5 0 9) v4)) 2) + v2)) fun n14 =>
      ck ((n14 5 0 11) - (n14 3 ((-1) - (n 99 (n 5 0 9) v4)) 5)) <|
      st (nw n14 3 ((-1) - (n 99 (n 5 0 9) v4)) 3 ((n14 5 0 11) - (n14 3 ((-1) - (n 99 (n 5 0 9) v4)) 5))) fun n21 =>
      ck (v4 + 1) <|
      some (.inl (v4 + 1, n21))
    else
      nn (n 5 0 5) <|
      ck ((n 99 (n 5 0 9) v4) * 6) <|
      ck (((n 99 (n 5 0 9) v4) * 6) + 3) <|
      dx n (n 5 0 5) 0 (((n 99 (n 5 0 9) v4) * 6) + 3) <|
      ck ((n 99 (n 5 0 5) (((n 99 (n 5 0 9) v4) * 6) + 3)) + v2) <|
      dx n (n 5 0 5) 0 (((n 99 (n 5 0 9) v4) * 6) + 3) <|
      st (nw n 99 (n 5 0 5) (((n 99 (n 5 0 9) v4) * 6) + 3) ((n 99 (n 5 0 5) (((n 99 (n 5 0 9) v4) * 6) + 3)) + v2)) fun n32 =>
      nn (n32 5 0 5) <|
      ck ((n 99 (n 5 0 9) v4) * 6) <|
      ck (((n 99 (n 5 0 9) v4) * 6) + 4) <|
      (N_Layout_wordHeight (n 99 (n 5 0 9) v4) n32).bind fun z40 =>
      ck ((n32 5 0 11) - z40) <|
      dx n32 (n32 5 0 5) 0 (((n 99 (n 5 0 9) v4) * 6) + 4) <|
      st (nw n32 99 (n32 5 0 5) (((n 99 (n 5 0 9) v4) * 6) + 4) ((n32 5 0 11) - z40)) fun n45 =>
      ck (v4 + 1) <|
      some (.inl (v4 + 1, n45))
  else
    some (.inr n)
theorem fb_Layout_closeLine_134 {w y : Prop} {g : g_S} {n : NS} {m : YS} (hw : w) {xv2 : Int32} {v2 : Int} (ev2 : xv2 = Int32.ofInt v2) (rv2 : inR v2) {xv4 : Int32} {v4 : Int} (ev4 : xv4 = Int32.ofInt v4) (rv4 : inR v4) (hR : RC w y g n m) : Rf (RS (fun a b => RI a.1 b.1 ∧ RC w y a.2 b.2 m) (fun a b => RC w y a b m)) (b_Layout_closeLine_134 1661 xv2 xv4 g) (nb_Layout_closeLine_134 v2 v4 n) := by
  subst ev2
  subst ev4
  unfold b_Layout_closeLine_134 nb_Layout_closeLine_134
  refine c_I (s := 10) hR (sK5 hR hw) rfl rfl (fun h1 => ?_)
  refine rf_lt rfl rfl rv4 h1 ?_ ?_
  · refine c_D (s := 9) hR (sK5 hR hw) rfl rfl rfl (fun h3 => ?_)
    refine d_I hR h3 rfl rv4 (fun h4 h5 => ?_)
    refine rf_lt rfl (e_n 0) h5 (show inR 0 by decide) ?_ ?_
    · refine c_S hR hw (sK5 hR hw) (by decide) (show srf 5 0 2 = some 1662 from rfl) ?_
      refine rf_ck (fun h8 => ?_)
      refine s_S (p := aBx (_)) (L := 120) hR hw (sA42 hR hw) (by decide) (lA42 hR hw) rfl (e_sub (e_m 1) rfl) h8 (fun z1 z2 => srf42 z1 z2) (fun h9 => ?_)
      refine c_I (s := 2) hR (ce_bx hR hw (And.intro h9.1 (Int.le_of_lt h9.2))) rfl rfl (fun h11 => ?_)
      refine rf_ck (fun h12 => ?_)
      refine p_I (s := 2) hR (ce_bx hR hw (And.intro h9.1 (Int.le_of_lt h9.2))) rfl ⟨rfl, rfl, by decide⟩ (e_add rfl rfl) h12 (fun g16 n14 hR15 => ?_)
      refine c_I (s := 11) hR15 (sK5 hR15 hw) rfl rfl (fun h17 => ?_)
      refine c_I (s := 5) hR15 (ce_bx hR15 hw (And.intro h9.1 (Int.le_of_lt h9.2))) rfl rfl (fun h18 => ?_)
      refine rf_ck (fun h19 => ?_)
      refine p_I (s := 3) hR15 (ce_bx hR15 hw (And.intro h9.1 (Int.le_of_lt h9.2))) rfl ⟨rfl, rfl, by decide⟩ (e_sub rfl rfl) h19 (fun g23 n21 hR22 => ?_)
      refine rf_ck (fun h24 => ?_)
      exact rf_ok (by exact ⟨⟨(e_add rfl (e_n 1)), h24⟩, hR22⟩)
    · refine c_D (s := 5) hR (sK5 hR hw) rfl rfl rfl (fun h25 => ?_)
      refine rf_ck (fun h26 => ?_)
      refine rf_ck (fun h27 => ?_)
      refine d_I hR h25 (e_add (e_mul rfl (e_n 6)) (e_n 3)) h27 (fun h28 h29 => ?_)
      refine rf_ck (fun h30 => ?_)
      refine e_I hR h25 (e_add (e_mul rfl (e_n 6)) (e_n 3)) h27 (e_add rfl rfl) h30 (fun g34 n32 hR33 => ?_)
      refine c_D (s := 5) hR33 (sK5 hR33 hw) rfl rfl rfl (fun h35 => ?_)
      refine rf_ck (fun h36 => ?_)
      refine rf_ck (fun h37 => ?_)
      refine c_I (s := 11) hR33 (sK5 hR33 hw) rfl rfl (fun h38 => ?_)
      refine v_c (sK5 hR33 hw).1 ?_
      refine rf_bind (f_Layout_wordHeight hw rfl h5 hR33) (fun a42 z40 h => ?_)
      obtain ⟨rfl, r41⟩ := h
      refine rf_ck (fun h43 => ?_)
      refine e_I hR33 h35 (e_add (e_mul rfl (e_n 6)) (e_n 4)) h37 (e_sub rfl rfl) h43 (fun g47 n45 hR46 => ?_)
      refine rf_ck (fun h48 => ?_)
      exact rf_ok (by exact ⟨⟨(e_add rfl (e_n 1)), h48⟩, hR46⟩)
  · exact rf_ok (by exact hR)
noncomputable def NL_Layout_closeLine_134 (v2 : Int) (v4 : Int) (n : NS) : Option (NS) :=
  it (fun s : Int × NS => nb_Layout_closeLine_134 v2 s.1 s.2) (v4, n)
theorem fL_Layout_closeLine_134 {w y : Prop} {g : g_S} {n : NS} {m : YS} (hw : w) {xv2 : Int32} {v2 : Int} (ev2 : xv2 = Int32.ofInt v2) (rv2 : inR v2) {xv4 : Int32} {v4 : Int} (ev4 : xv4 = Int32.ofInt v4) (rv4 : inR v4) (hR : RC w y g n m) : Rf (fun a b => RC w y a b m) (L_Layout_closeLine_134 1661 xv2 xv4 g) (NL_Layout_closeLine_134 v2 v4 n) := by
  subst ev2
  subst ev4
  unfold L_Layout_closeLine_134 NL_Layout_closeLine_134
  refine rf_it (I := (fun a b => RI a.1 b.1 ∧ RC w y a.2 b.2 m)) (fun s t h => ?_) ⟨⟨rfl, rv4⟩, hR⟩
  exact fb_Layout_closeLine_134 hw rfl rv2 h.1.1 h.1.2 h.2
theorem NL_Layout_closeLine_134_eq (v2 : Int) (v4 : Int) (n : NS) : NL_Layout_closeLine_134 v2 v4 n = itc (nb_Layout_closeLine_134 v2 v4 n) (fun s => NL_Layout_closeLine_134 v2 s.1 s.2) := it_eq2 (fun s : Int × NS => nb_Layout_closeLine_134 v2 s.1 s.2) (v4, n)
noncomputable def nk_Layout_closeLine_54 (w0 : Int) (n : NS) : Option (NS) :=
  (NL_Layout_closeLine_60 w0 0 0 n).bind <| fun z1 =>
  ck ((n 5 0 11) + z1) <|
  st (nw n 5 0 11 ((n 5 0 11) + z1)) fun n7 =>
  (NL_Layout_closeLine_134 w0 0 n7).bind <| fun n10 =>
  st (nw n10 5 0 10 0) fun n14 =>
  (NL_Layout_closeLine_247 n14).bind <| fun n17 =>
  (N_Layout_openAt (n17 5 0 11) n17).bind fun n22 =>
  some n22
theorem fk_Layout_closeLine_54 {w y : Prop} {g : g_S} {n : NS} {m : YS} (hw : w) {xw0 : Int32} {w0 : Int} (ew0 : xw0 = Int32.ofInt w0) (rw0 : inR w0) (hR : RC w y g n m) : Rf (fun a b => RC w y a b m) (k_Layout_closeLine_54 1661 xw0 g) (nk_Layout_closeLine_54 w0 n) := by
  subst ew0
  unfold k_Layout_closeLine_54 nk_Layout_closeLine_54
  refine rf_bind (fL_Layout_closeLine_60 hw rfl rw0 (e_n 0) (show inR 0 by decide) (e_n 0) (show inR 0 by decide) hR) (fun a2 z1 h => ?_)
  obtain ⟨rfl, r3⟩ := (show RI a2 z1 from h)
  refine c_I (s := 11) hR (sK5 hR hw) rfl rfl (fun h4 => ?_)
  refine rf_ck (fun h5 => ?_)
  refine p_I (s := 11) hR (sK5 hR hw) rfl ⟨rfl, rfl, by decide⟩ (e_add rfl rfl) h5 (fun g9 n7 hR8 => ?_)
  refine rf_bind (fL_Layout_closeLine_134 hw rfl rw0 (e_n 0) (show inR 0 by decide) hR8) (fun a11 n10 h => ?_)
  have hR12 : RC w y a11 n10 m := h
  refine p_I (s := 10) hR12 (sK5 hR12 hw) rfl ⟨rfl, rfl, by decide⟩ (e_n 0) (show inR 0 by decide) (fun g16 n14 hR15 => ?_)
  refine rf_bind (fL_Layout_closeLine_247 hw hR15) (fun a18 n17 h => ?_)
  have hR19 : RC w y a18 n17 m := h
  refine c_I (s := 11) hR19 (sK5 hR19 hw) rfl rfl (fun h20 => ?_)
  refine v_c (sK5 hR19 hw).1 ?_
  refine rf_bind (f_Layout_openAt hw rfl h20 hR19) (fun g24 n22 hR23 => ?_)
  exact rf_ok (by exact hR23)
noncomputable def N_Layout_closeLine (n : NS) : Option (NS) :=
  if (n 5 0 10) = 0 then
    some n
  else
    ck ((n 5 0 13) - (n 5 0 12)) <|
    nn (n 5 0 8) <|
    if (n 3 (n 5 0 8) 12) = 0 then
      nk_Layout_closeLine_54 0 n
    else
      nn (n 5 0 8) <|
      if (n 3 (n 5 0 8) 12) = 1 then
        cd (max 0 ((n 5 0 13) - (n 5 0 12))) 2 <|
        nk_Layout_closeLine_54 ((max 0 ((n 5 0 13) - (n 5 0 12))) / 2) n
      else
        nk_Layout_closeLine_54 (max 0 ((n 5 0 13) - (n 5 0 12))) n
theorem f_Layout_closeLine {w y : Prop} {g : g_S} {n : NS} {m : YS} (hw : w) (hR : RC w y g n m) : Rf (fun a b => RC w y a b m) (M_Layout_closeLine 1661 g) (N_Layout_closeLine n) := by
  unfold M_Layout_closeLine N_Layout_closeLine
  refine c_I (s := 10) hR (sK5 hR hw) rfl rfl (fun h1 => ?_)
  refine rf_eq rfl (e_n 0) h1 (show inR 0 by decide) ?_ ?_
  · exact rf_ok (by exact hR)
  · refine c_I (s := 13) hR (sK5 hR hw) rfl rfl (fun h4 => ?_)
    refine c_I (s := 12) hR (sK5 hR hw) rfl rfl (fun h5 => ?_)
    refine rf_ck (fun h6 => ?_)
    refine c_B (s := 8) hR (sK5 hR hw) rfl rfl rfl (fun h8 => ?_)
    refine c_I (s := 12) hR (ce_bx hR hw h8) rfl rfl (fun h9 => ?_)
    refine rf_eq rfl (e_n 0) h9 (show inR 0 by decide) ?_ ?_
    · exact fk_Layout_closeLine_54 hw (e_n 0) (show inR 0 by decide) hR
    · refine c_B (s := 8) hR (sK5 hR hw) rfl rfl rfl (fun h11 => ?_)
      refine c_I (s := 12) hR (ce_bx hR hw h11) rfl rfl (fun h12 => ?_)
      refine rf_eq rfl (e_n 1) h12 (show inR 1 by decide) ?_ ?_
      · refine rf_dv (e_mx (e_n 0) (e_sub rfl rfl) (show inR 0 by decide) h6) (e_n 2) (max_r (show inR 0 by decide) h6) (show inR 2 by decide) (fun h14 => ?_)
        exact fk_Layout_closeLine_54 hw rfl h14 hR
      · exact fk_Layout_closeLine_54 hw (e_mx (e_n 0) (e_sub rfl rfl) (show inR 0 by decide) h6) (max_r (show inR 0 by decide) h6) hR
noncomputable def nb_Layout_putItem_26 (v1 : Int) (v2 : Int) (v4 : Int) (v5 : Int) (n : NS) : Option ((Int × Int × NS) ⊕ ((Int × NS) ⊕ (Int × NS))) :=
  if 121 < v5 then
    some (.inr (.inr (v4, n)))
  else
    ck ((n 5 0 12) + v4) <|
    ck (((n 5 0 12) + v4) + v2) <|
    if (n 5 0 13) < (((n 5 0 12) + v4) + v2) then
      if 0 < (n 5 0 10) then
        (N_Layout_closeLine n).bind fun n10 =>
        ck (v5 + 1) <|
        some (.inl (0, v5 + 1, n10))
      else
        if (n 5 0 14) = (-1) then
          some (.inr (.inl (v4, n)))
        else
          st (nw n 5 0 11 (n 5 0 14)) fun n18 =>
          (N_Layout_openAt (n18 5 0 11) n18).bind fun n23 =>
          ck (v5 + 1) <|
          some (.inl (v4, v5 + 1, n23))
    else
      some (.inr (.inr (v4, n)))
theorem fb_Layout_putItem_26 {w y : Prop} {g : g_S} {n : NS} {m : YS} (hw : w) {xv1 : Int32} {v1 : Int} (ev1 : xv1 = Int32.ofInt v1) (rv1 : inR v1) {xv2 : Int32} {v2 : Int} (ev2 : xv2 = Int32.ofInt v2) (rv2 : inR v2) {xv4 : Int32} {v4 : Int} (ev4 : xv4 = Int32.ofInt v4) (rv4 : inR v4) {xv5 : Int32} {v5 : Int} (ev5 : xv5 = Int32.ofInt v5) (rv5 : inR v5) (hR : RC w y g n m) : Rf (RS (fun a b => RI a.1 b.1 ∧ RI a.2.1 b.2.1 ∧ RC w y a.2.2 b.2.2 m) (RS (fun a b => RI a.1 b.1 ∧ RC w y a.2 b.2 m) (fun a b => RI a.1 b.1 ∧ RC w y a.2 b.2 m))) (b_Layout_putItem_26 1661 xv1 xv2 xv4 xv5 g) (nb_Layout_putItem_26 v1 v2 v4 v5 n) := by
  subst ev1
  subst ev2
  subst ev4
  subst ev5
  unfold b_Layout_putItem_26 nb_Layout_putItem_26
  refine rf_lt (e_n 121) rfl (show inR 121 by decide) rv5 ?_ ?_
  · exact rf_ok (by exact ⟨⟨rfl, rv4⟩, hR⟩)
  · refine c_I (s := 12) hR (sK5 hR hw) rfl rfl (fun h2 => ?_)
    refine rf_ck (fun h3 => ?_)
    refine rf_ck (fun h4 => ?_)
    refine c_I (s := 13) hR (sK5 hR hw) rfl rfl (fun h5 => ?_)
    refine rf_lt rfl (e_add (e_add rfl rfl) rfl) h5 h4 ?_ ?_
    · refine c_I (s := 10) hR (sK5 hR hw) rfl rfl (fun h7 => ?_)
      refine rf_lt (e_n 0) rfl (show inR 0 by decide) h7 ?_ ?_
      · refine v_c (sK5 hR hw).1 ?_
        refine rf_bind (f_Layout_closeLine hw hR) (fun g12 n10 hR11 => ?_)
        refine rf_ck (fun h13 => ?_)
        exact rf_ok (by exact ⟨⟨(e_n 0), (show inR 0 by decide)⟩, ⟨(e_add rfl (e_n 1)), h13⟩, hR11⟩)
      · refine c_I (s := 14) hR (sK5 hR hw) rfl rfl (fun h14 => ?_)
        refine rf_eq rfl (e_m 1) h14 (show inR (-1) by decide) ?_ ?_
        · exact rf_ok (by exact ⟨⟨rfl, rv4⟩, hR⟩)
        · refine c_I (s := 14) hR (sK5 hR hw) rfl rfl (fun h16 => ?_)
          refine p_I (s := 11) hR (sK5 hR hw) rfl ⟨rfl, rfl, by decide⟩ rfl h16 (fun g20 n18 hR19 => ?_)
          refine c_I (s := 11) hR19 (sK5 hR19 hw) rfl rfl (fun h21 => ?_)
          refine v_c (sK5 hR19 hw).1 ?_
          refine rf_bind (f_Layout_openAt hw rfl h21 hR19) (fun g25 n23 hR24 => ?_)
          refine rf_ck (fun h26 => ?_)
          exact rf_ok (by exact ⟨⟨rfl, rv4⟩, ⟨(e_add rfl (e_n 1)), h26⟩, hR24⟩)
    · exact rf_ok (by exact ⟨⟨rfl, rv4⟩, hR⟩)
noncomputable def NL_Layout_putItem_26 (v1 : Int) (v2 : Int) (v4 : Int) (v5 : Int) (n : NS) : Option ((Int × NS) ⊕ (Int × NS)) :=
  it (fun s : Int × Int × NS => nb_Layout_putItem_26 v1 v2 s.1 s.2.1 s.2.2) (v4, v5, n)
theorem fL_Layout_putItem_26 {w y : Prop} {g : g_S} {n : NS} {m : YS} (hw : w) {xv1 : Int32} {v1 : Int} (ev1 : xv1 = Int32.ofInt v1) (rv1 : inR v1) {xv2 : Int32} {v2 : Int} (ev2 : xv2 = Int32.ofInt v2) (rv2 : inR v2) {xv4 : Int32} {v4 : Int} (ev4 : xv4 = Int32.ofInt v4) (rv4 : inR v4) {xv5 : Int32} {v5 : Int} (ev5 : xv5 = Int32.ofInt v5) (rv5 : inR v5) (hR : RC w y g n m) : Rf (RS (fun a b => RI a.1 b.1 ∧ RC w y a.2 b.2 m) (fun a b => RI a.1 b.1 ∧ RC w y a.2 b.2 m)) (L_Layout_putItem_26 1661 xv1 xv2 xv4 xv5 g) (NL_Layout_putItem_26 v1 v2 v4 v5 n) := by
  subst ev1
  subst ev2
  subst ev4
  subst ev5
  unfold L_Layout_putItem_26 NL_Layout_putItem_26
  refine rf_it (I := (fun a b => RI a.1 b.1 ∧ RI a.2.1 b.2.1 ∧ RC w y a.2.2 b.2.2 m)) (fun s t h => ?_) ⟨⟨rfl, rv4⟩, ⟨rfl, rv5⟩, hR⟩
  exact fb_Layout_putItem_26 hw rfl rv1 rfl rv2 h.1.1 h.1.2 h.2.1.1 h.2.1.2 h.2.2
theorem NL_Layout_putItem_26_eq (v1 : Int) (v2 : Int) (v4 : Int) (v5 : Int) (n : NS) : NL_Layout_putItem_26 v1 v2 v4 v5 n = itc (nb_Layout_putItem_26 v1 v2 v4 v5 n) (fun s => NL_Layout_putItem_26 v1 v2 s.1 s.2.1 s.2.2) := it_eq2 (fun s : Int × Int × NS => nb_Layout_putItem_26 v1 v2 s.1 s.2.1 s.2.2) (v4, v5, n)
noncomputable def nk_Layout_putItem_171 (v1 : Int) (v2 : Int) (v4 : Int) (n : NS) : Option (NS) :=
  nn (n 5 0 9) <|
  dx n (n 5 0 9) 0 (n 5 0 10) <|
  st (nw n 99 (n 5 0 9) (n 5 0 10) v1) fun n4 =>
  ck ((n4 5 0 10) + 1) <|
  st (nw n4 5 0 10 ((n4 5 0 10) + 1)) fun n10 =>
  ck (v4 + v2) <|
  ck ((n10 5 0 12) + (v4 + v2)) <|
  st (nw n10 5 0 12 ((n10 5 0 12) + (v4 + v2))) fun n17 =>
  st (nw n17 5 0 15 0) fun n21 =>
  some n21
theorem fk_Layout_putItem_171 {w y : Prop} {g : g_S} {n : NS} {m : YS} (hw : w) {xv1 : Int32} {v1 : Int} (ev1 : xv1 = Int32.ofInt v1) (rv1 : inR v1) {xv2 : Int32} {v2 : Int} (ev2 : xv2 = Int32.ofInt v2) (rv2 : inR v2) {xv4 : Int32} {v4 : Int} (ev4 : xv4 = Int32.ofInt v4) (rv4 : inR v4) (hR : RC w y g n m) : Rf (fun a b => RC w y a b m) (k_Layout_putItem_171 1661 xv1 xv2 xv4 g) (nk_Layout_putItem_171 v1 v2 v4 n) := by
  subst ev1
  subst ev2
  subst ev4
  unfold k_Layout_putItem_171 nk_Layout_putItem_171
  refine c_D (s := 9) hR (sK5 hR hw) rfl rfl rfl (fun h1 => ?_)
  refine c_I (s := 10) hR (sK5 hR hw) rfl rfl (fun h2 => ?_)
  refine e_I hR h1 rfl h2 rfl rv1 (fun g6 n4 hR5 => ?_)
  refine c_I (s := 10) hR5 (sK5 hR5 hw) rfl rfl (fun h7 => ?_)
  refine rf_ck (fun h8 => ?_)
  refine p_I (s := 10) hR5 (sK5 hR5 hw) rfl ⟨rfl, rfl, by decide⟩ (e_add rfl (e_n 1)) h8 (fun g12 n10 hR11 => ?_)
  refine c_I (s := 12) hR11 (sK5 hR11 hw) rfl rfl (fun h13 => ?_)
  refine rf_ck (fun h14 => ?_)
  refine rf_ck (fun h15 => ?_)
  refine p_I (s := 12) hR11 (sK5 hR11 hw) rfl ⟨rfl, rfl, by decide⟩ (e_add rfl (e_add rfl rfl)) h15 (fun g19 n17 hR18 => ?_)
  refine p_Z (s := 15) hR18 (sK5 hR18 hw) rfl ⟨rfl, by decide⟩ (e_n 0) (.inl rfl) (fun g23 n21 hR22 => ?_)
  exact rf_ok (by exact hR22)
noncomputable def nk_Layout_putItem_142 (v1 : Int) (v2 : Int) (v4 : Int) (n : NS) : Option (NS) :=
  nn (n 5 0 9) <|
  ty n (n 5 0 9) 0 <|
  ck (n 93 0 (n 5 0 9)) <|
  if (n 5 0 10) = (n 93 0 (n 5 0 9)) then
    nn (n 5 0 9) <|
    ck (2 * (n 5 0 10)) <|
    (N_Arrays_copyOf_1 (n 5 0 9) (2 * (n 5 0 10)) n).bind <| u2 fun z10 n13 =>
    st (nw n13 5 0 9 z10) fun n17 =>
    nk_Layout_putItem_171 v1 v2 v4 n17
  else
    nk_Layout_putItem_171 v1 v2 v4 n
theorem fk_Layout_putItem_142 {w y : Prop} {g : g_S} {n : NS} {m : YS} (hw : w) {xv1 : Int32} {v1 : Int} (ev1 : xv1 = Int32.ofInt v1) (rv1 : inR v1) {xv2 : Int32} {v2 : Int} (ev2 : xv2 = Int32.ofInt v2) (rv2 : inR v2) {xv4 : Int32} {v4 : Int} (ev4 : xv4 = Int32.ofInt v4) (rv4 : inR v4) (hR : RC w y g n m) : Rf (fun a b => RC w y a b m) (k_Layout_putItem_142 1661 xv1 xv2 xv4 g) (nk_Layout_putItem_142 v1 v2 v4 n) := by
  subst ev1
  subst ev2
  subst ev4
  unfold k_Layout_putItem_142 nk_Layout_putItem_142
  refine c_I (s := 10) hR (sK5 hR hw) rfl rfl (fun h1 => ?_)
  refine c_D (s := 9) hR (sK5 hR hw) rfl rfl rfl (fun h2 => ?_)
  refine d_N (t := 0) hR h2 (by decide) (fun h3 h4 => ?_)
  refine rf_eq rfl rfl h1 h3 ?_ ?_
  · refine c_D (s := 9) hR (sK5 hR hw) rfl rfl rfl (fun h6 => ?_)
    refine c_I (s := 10) hR (sK5 hR hw) rfl rfl (fun h7 => ?_)
    refine rf_ck (fun h8 => ?_)
    refine rf_c2 (f_Arrays_copyOf_1 rfl h6 (e_mul (e_n 2) rfl) h8 hR) (fun a12 g15 b h => ?_)
    obtain ⟨z10, n13⟩ := b
    refine rf_v2 ?_
    obtain ⟨rfl, r11⟩ := (show RD a12 z10 from h.1)
    have hR14 : RC w y g15 n13 m := h.2
    refine p_R (s := 9) (a := _) hR14 (sK5 hR14 hw) rfl rfl rfl (rc_d r11) (fun g19 n17 hR18 => ?_)
    exact fk_Layout_putItem_171 hw rfl rv1 rfl rv2 rfl rv4 hR18
  · exact fk_Layout_putItem_171 hw rfl rv1 rfl rv2 rfl rv4 hR
noncomputable def nk_Layout_putItem_99 (v1 : Int) (v2 : Int) (v4 : Int) (n : NS) : Option (NS) :=
  if v1 < 0 then
    ck ((-1) - v1) <|
    ix ((-1) - v1) 120 <|
    ck ((n 5 0 12) + v4) <|
    st (nw n 3 ((-1) - v1) 2 ((n 5 0 12) + v4)) fun n9 =>
    nk_Layout_putItem_142 v1 v2 v4 n9
  else
    nn (n 5 0 5) <|
    ck (v1 * 6) <|
    ck ((v1 * 6) + 3) <|
    ck ((n 5 0 12) + v4) <|
    dx n (n 5 0 5) 0 ((v1 * 6) + 3) <|
    st (nw n 99 (n 5 0 5) ((v1 * 6) + 3) ((n 5 0 12) + v4)) fun n18 =>
    nk_Layout_putItem_142 v1 v2 v4 n18
theorem fk_Layout_putItem_99 {w y : Prop} {g : g_S} {n : NS} {m : YS} (hw : w) {xv1 : Int32} {v1 : Int} (ev1 : xv1 = Int32.ofInt v1) (rv1 : inR v1) {xv2 : Int32} {v2 : Int} (ev2 : xv2 = Int32.ofInt v2) (rv2 : inR v2) {xv4 : Int32} {v4 : Int} (ev4 : xv4 = Int32.ofInt v4) (rv4 : inR v4) (hR : RC w y g n m) : Rf (fun a b => RC w y a b m) (k_Layout_putItem_99 1661 xv1 xv2 xv4 g) (nk_Layout_putItem_99 v1 v2 v4 n) := by
  subst ev1
  subst ev2
  subst ev4
  unfold k_Layout_putItem_99 nk_Layout_putItem_99
  refine rf_lt rfl (e_n 0) rv1 (show inR 0 by decide) ?_ ?_
  · refine c_S hR hw (sK5 hR hw) (by decide) (show srf 5 0 2 = some 1662 from rfl) ?_
    refine rf_ck (fun h3 => ?_)
    refine s_S (p := aBx (_)) (L := 120) hR hw (sA42 hR hw) (by decide) (lA42 hR hw) rfl (e_sub (e_m 1) rfl) h3 (fun z1 z2 => srf42 z1 z2) (fun h4 => ?_)
    refine c_I (s := 12) hR (sK5 hR hw) rfl rfl (fun h6 => ?_)
    refine rf_ck (fun h7 => ?_)
    refine p_I (s := 2) hR (ce_bx hR hw (And.intro h4.1 (Int.le_of_lt h4.2))) rfl ⟨rfl, rfl, by decide⟩ (e_add rfl rfl) h7 (fun g11 n9 hR10 => ?_)
    exact fk_Layout_putItem_142 hw rfl rv1 rfl rv2 rfl rv4 hR10
  · refine c_D (s := 5) hR (sK5 hR hw) rfl rfl rfl (fun h12 => ?_)
    refine rf_ck (fun h13 => ?_)
    refine rf_ck (fun h14 => ?_)
    refine c_I (s := 12) hR (sK5 hR hw) rfl rfl (fun h15 => ?_)
    refine rf_ck (fun h16 => ?_)
    refine e_I hR h12 (e_add (e_mul rfl (e_n 6)) (e_n 3)) h14 (e_add rfl rfl) h16 (fun g20 n18 hR19 => ?_)
    exact fk_Layout_putItem_142 hw rfl rv1 rfl rv2 rfl rv4 hR19
noncomputable def nk_Layout_putItem_21 (v1 : Int) (v2 : Int) (w0 : Int) (n : NS) : Option (NS) :=
  (NL_Layout_putItem_26 v1 v2 w0 0 n).bind <|
    us (u2 fun z1 n2 =>
    nk_Layout_putItem_99 v1 v2 z1 n2)
    (u2 fun z7 n8 =>
    nk_Layout_putItem_99 v1 v2 z7 n8)
theorem fk_Layout_putItem_21 {w y : Prop} {g : g_S} {n : NS} {m : YS} (hw : w) {xv1 : Int32} {v1 : Int} (ev1 : xv1 = Int32.ofInt v1) (rv1 : inR v1) {xv2 : Int32} {v2 : Int} (ev2 : xv2 = Int32.ofInt v2) (rv2 : inR v2) {xw0 : Int32} {w0 : Int} (ew0 : xw0 = Int32.ofInt w0) (rw0 : inR w0) (hR : RC w y g n m) : Rf (fun a b => RC w y a b m) (k_Layout_putItem_21 1661 xv1 xv2 xw0 g) (nk_Layout_putItem_21 v1 v2 w0 n) := by
  subst ev1
  subst ev2
  subst ew0
  unfold k_Layout_putItem_21 nk_Layout_putItem_21
  refine rf_bind (fL_Layout_putItem_26 hw rfl rv1 rfl rv2 rfl rw0 (e_n 0) (show inR 0 by decide) hR) (fun a b h => rf_us h (fun a b h => ?_) (fun a b h => ?_))
  · obtain ⟨a3, a4⟩ := a
    obtain ⟨z1, n2⟩ := b
    refine rf_u2 ?_
    obtain ⟨rfl, r6⟩ := (show RI a3 z1 from h.1)
    have hR5 : RC w y a4 n2 m := h.2
    exact fk_Layout_putItem_99 hw rfl rv1 rfl rv2 rfl r6 hR5
  · obtain ⟨a9, a10⟩ := a
    obtain ⟨z7, n8⟩ := b
    refine rf_u2 ?_
    obtain ⟨rfl, r12⟩ := (show RI a9 z7 from h.1)
    have hR11 : RC w y a10 n8 m := h.2
    exact fk_Layout_putItem_99 hw rfl rv1 rfl rv2 rfl r12 hR11
noncomputable def nk_Layout_putItem_20 (v1 : Int) (v2 : Int) (n : NS) : Option (NS) :=
  nk_Layout_putItem_21 v1 v2 0 n
theorem fk_Layout_putItem_20 {w y : Prop} {g : g_S} {n : NS} {m : YS} (hw : w) {xv1 : Int32} {v1 : Int} (ev1 : xv1 = Int32.ofInt v1) (rv1 : inR v1) {xv2 : Int32} {v2 : Int} (ev2 : xv2 = Int32.ofInt v2) (rv2 : inR v2) (hR : RC w y g n m) : Rf (fun a b => RC w y a b m) (k_Layout_putItem_20 1661 xv1 xv2 g) (nk_Layout_putItem_20 v1 v2 n) := by
  subst ev1
  subst ev2
  unfold k_Layout_putItem_20 nk_Layout_putItem_20
  exact fk_Layout_putItem_21 hw rfl rv1 rfl rv2 (e_n 0) (show inR 0 by decide) hR
noncomputable def N_Layout_putItem (v1 : Int) (v2 : Int) (v3 : Int) (n : NS) : Option (NS) :=
  if 0 < (n 5 0 10) then
    if (n 5 0 15) = 0 then
      nk_Layout_putItem_20 v1 v2 n
    else
      ck (3 * v3) <|
      nk_Layout_putItem_21 v1 v2 (3 * v3) n
  else
    nk_Layout_putItem_20 v1 v2 n
theorem f_Layout_putItem {w y : Prop} {g : g_S} {n : NS} {m : YS} (hw : w) {xv1 : Int32} {v1 : Int} (ev1 : xv1 = Int32.ofInt v1) (rv1 : inR v1) {xv2 : Int32} {v2 : Int} (ev2 : xv2 = Int32.ofInt v2) (rv2 : inR v2) {xv3 : Int32} {v3 : Int} (ev3 : xv3 = Int32.ofInt v3) (rv3 : inR v3) (hR : RC w y g n m) : Rf (fun a b => RC w y a b m) (M_Layout_putItem 1661 xv1 xv2 xv3 g) (N_Layout_putItem v1 v2 v3 n) := by
  subst ev1
  subst ev2
  subst ev3
  unfold M_Layout_putItem N_Layout_putItem
  refine c_I (s := 10) hR (sK5 hR hw) rfl rfl (fun h1 => ?_)
  refine rf_lt (e_n 0) rfl (show inR 0 by decide) h1 ?_ ?_
  · refine c_Z (s := 15) hR (sK5 hR hw) rfl rfl rfl (fun h3 => ?_)
    refine rf_eq rfl (e_n 0) (inZ.r h3) (show inR 0 by decide) ?_ ?_
    · exact fk_Layout_putItem_20 hw rfl rv1 rfl rv2 hR
    · refine rf_ck (fun h5 => ?_)
      exact fk_Layout_putItem_21 hw rfl rv1 rfl rv2 (e_mul (e_n 3) rfl) h5 hR
  · exact fk_Layout_putItem_20 hw rfl rv1 rfl rv2 hR
noncomputable def nk_Layout_putWords_55 (v1 : Int) (v2 : Int) (v4 : Int) (v5 : Int) (w0 : Int) (n : NS) : Option ((Int × Int × NS) ⊕ (Int × NS)) :=
  cz w0 <|
  st (nw n 5 0 15 w0) fun n3 =>
  nn (n3 5 0 5) <|
  ck (v4 * 6) <|
  ck ((v4 * 6) + 5) <|
  dx n3 (n3 5 0 5) 0 ((v4 * 6) + 5) <|
  (N_Layout_putItem v4 (n3 99 (n3 5 0 5) ((v4 * 6) + 5)) (n3 3 v2 11) n3).bind fun n13 =>
  nn (n13 5 0 5) <|
  ck (v4 * 6) <|
  ck ((v4 * 6) + 2) <|
  dx n13 (n13 5 0 5) 0 ((v4 * 6) + 2) <|
  ck (v5 + (n13 99 (n13 5 0 5) ((v4 * 6) + 2))) <|
  ck (v4 + 1) <|
  some (.inl (v5 + (n13 99 (n13 5 0 5) ((v4 * 6) + 2)), v4 + 1, n13))
theorem fk_Layout_putWords_55 {w y : Prop} {g : g_S} {n : NS} {m : YS} (hw : w) {xv1 : Nat} {v1 : Int} (ev1 : xv1 = aBy v1) (rv1 : 0 ≤ v1 ∧ v1 ≤ 631) {xv2 : Nat} {v2 : Int} (ev2 : xv2 = aBx v2) (rv2 : 0 ≤ v2 ∧ v2 ≤ 120) {xv4 : Int32} {v4 : Int} (ev4 : xv4 = Int32.ofInt v4) (rv4 : inR v4) {xv5 : Int32} {v5 : Int} (ev5 : xv5 = Int32.ofInt v5) (rv5 : inR v5) {xw0 : Int32} {w0 : Int} (ew0 : xw0 = Int32.ofInt w0) (rw0 : inR w0) (hR : RC w y g n m) : Rf (RS (fun a b => RI a.1 b.1 ∧ RI a.2.1 b.2.1 ∧ RC w y a.2.2 b.2.2 m) (fun a b => RI a.1 b.1 ∧ RC w y a.2 b.2 m)) (k_Layout_putWords_55 1661 xv1 xv2 xv4 xv5 xw0 1661 g) (nk_Layout_putWords_55 v1 v2 v4 v5 w0 n) := by
  subst ev1
  subst ev2
  subst ev4
  subst ev5
  subst ew0
  unfold k_Layout_putWords_55 nk_Layout_putWords_55
  refine rf_cz (fun h2 => ?_)
  refine p_Z (s := 15) hR (sK5 hR hw) rfl ⟨rfl, by decide⟩ rfl h2 (fun g5 n3 hR4 => ?_)
  refine c_D (s := 5) hR4 (sK5 hR4 hw) rfl rfl rfl (fun h6 => ?_)
  refine rf_ck (fun h7 => ?_)
  refine rf_ck (fun h8 => ?_)
  refine d_I hR4 h6 (e_add (e_mul rfl (e_n 6)) (e_n 5)) h8 (fun h9 h10 => ?_)
  refine c_I (s := 11) hR4 (ce_bx hR4 hw rv2) rfl rfl (fun h11 => ?_)
  refine v_c (sK5 hR4 hw).1 ?_
  refine rf_bind (f_Layout_putItem hw rfl rv4 rfl h10 rfl h11 hR4) (fun g15 n13 hR14 => ?_)
  refine c_D (s := 5) hR14 (sK5 hR14 hw) rfl rfl rfl (fun h16 => ?_)
  refine rf_ck (fun h17 => ?_)
  refine rf_ck (fun h18 => ?_)
  refine d_I hR14 h16 (e_add (e_mul rfl (e_n 6)) (e_n 2)) h18 (fun h19 h20 => ?_)
  refine rf_ck (fun h21 => ?_)
  refine rf_ck (fun h22 => ?_)
  exact rf_ok (by exact ⟨⟨(e_add rfl rfl), h21⟩, ⟨(e_add rfl (e_n 1)), h22⟩, hR14⟩)
noncomputable def nk_Layout_putWords_50 (v1 : Int) (v2 : Int) (v4 : Int) (v5 : Int) (n : NS) : Option ((Int × Int × NS) ⊕ (Int × NS)) :=
  nk_Layout_putWords_55 v1 v2 v4 v5 1 n
theorem fk_Layout_putWords_50 {w y : Prop} {g : g_S} {n : NS} {m : YS} (hw : w) {xv1 : Nat} {v1 : Int} (ev1 : xv1 = aBy v1) (rv1 : 0 ≤ v1 ∧ v1 ≤ 631) {xv2 : Nat} {v2 : Int} (ev2 : xv2 = aBx v2) (rv2 : 0 ≤ v2 ∧ v2 ≤ 120) {xv4 : Int32} {v4 : Int} (ev4 : xv4 = Int32.ofInt v4) (rv4 : inR v4) {xv5 : Int32} {v5 : Int} (ev5 : xv5 = Int32.ofInt v5) (rv5 : inR v5) (hR : RC w y g n m) : Rf (RS (fun a b => RI a.1 b.1 ∧ RI a.2.1 b.2.1 ∧ RC w y a.2.2 b.2.2 m) (fun a b => RI a.1 b.1 ∧ RC w y a.2 b.2 m)) (k_Layout_putWords_50 1661 xv1 xv2 xv4 xv5 1661 g) (nk_Layout_putWords_50 v1 v2 v4 v5 n) := by
  subst ev1
  subst ev2
  subst ev4
  subst ev5
  unfold k_Layout_putWords_50 nk_Layout_putWords_50
  exact fk_Layout_putWords_55 hw rfl rv1 rfl rv2 rfl rv4 rfl rv5 (e_n 1) (show inR 1 by decide) hR
noncomputable def nb_Layout_putWords_8 (v1 : Int) (v2 : Int) (v3 : Int) (v4 : Int) (n : NS) : Option ((Int × Int × NS) ⊕ (Int × NS)) :=
  ck ((n 3 v2 18) + (n 3 v2 19)) <|
  if v4 < ((n 3 v2 18) + (n 3 v2 19)) then
    nn (n 5 0 5) <|
    ck (v4 * 6) <|
    ck ((v4 * 6) + 1) <|
    dx n (n 5 0 5) 0 ((v4 * 6) + 1) <|
    if (n 5 0 15) = 0 then
      if v3 < (n 99 (n 5 0 5) ((v4 * 6) + 1)) then
        nk_Layout_putWords_50 v1 v2 v4 (n 99 (n 5 0 5) ((v4 * 6) + 1)) n
      else
        nk_Layout_putWords_55 v1 v2 v4 (n 99 (n 5 0 5) ((v4 * 6) + 1)) 0 n
    else
      nk_Layout_putWords_50 v1 v2 v4 (n 99 (n 5 0 5) ((v4 * 6) + 1)) n
  else
    some (.inr (v3, n))
theorem fb_Layout_putWords_8 {w y : Prop} {g : g_S} {n : NS} {m : YS} (hw : w) {xv1 : Nat} {v1 : Int} (ev1 : xv1 = aBy v1) (rv1 : 0 ≤ v1 ∧ v1 ≤ 631) {xv2 : Nat} {v2 : Int} (ev2 : xv2 = aBx v2) (rv2 : 0 ≤ v2 ∧ v2 ≤ 120) {xv3 : Int32} {v3 : Int} (ev3 : xv3 = Int32.ofInt v3) (rv3 : inR v3) {xv4 : Int32} {v4 : Int} (ev4 : xv4 = Int32.ofInt v4) (rv4 : inR v4) (hR : RC w y g n m) : Rf (RS (fun a b => RI a.1 b.1 ∧ RI a.2.1 b.2.1 ∧ RC w y a.2.2 b.2.2 m) (fun a b => RI a.1 b.1 ∧ RC w y a.2 b.2 m)) (b_Layout_putWords_8 1661 xv1 xv2 xv3 xv4 g) (nb_Layout_putWords_8 v1 v2 v3 v4 n) := by
  subst ev1
  subst ev2
  subst ev3
  subst ev4
  unfold b_Layout_putWords_8 nb_Layout_putWords_8
  refine c_I (s := 18) hR (ce_bx hR hw rv2) rfl rfl (fun h1 => ?_)
  refine c_I (s := 19) hR (ce_bx hR hw rv2) rfl rfl (fun h2 => ?_)
  refine rf_ck (fun h3 => ?_)
  refine rf_lt rfl (e_add rfl rfl) rv4 h3 ?_ ?_
  · refine c_D (s := 5) hR (sK5 hR hw) rfl rfl rfl (fun h5 => ?_)
    refine rf_ck (fun h6 => ?_)
    refine rf_ck (fun h7 => ?_)
    refine d_I hR h5 (e_add (e_mul rfl (e_n 6)) (e_n 1)) h7 (fun h8 h9 => ?_)
    refine c_Z (s := 15) hR (sK5 hR hw) rfl rfl rfl (fun h10 => ?_)
    refine rf_eq rfl (e_n 0) (inZ.r h10) (show inR 0 by decide) ?_ ?_
    · refine rf_lt rfl rfl rv3 h9 ?_ ?_
      · exact fk_Layout_putWords_50 hw rfl rv1 rfl rv2 rfl rv4 rfl h9 hR
      · exact fk_Layout_putWords_55 hw rfl rv1 rfl rv2 rfl rv4 rfl h9 (e_n 0) (show inR 0 by decide) hR
    · exact fk_Layout_putWords_50 hw rfl rv1 rfl rv2 rfl rv4 rfl h9 hR
  · exact rf_ok (by exact ⟨⟨rfl, rv3⟩, hR⟩)
noncomputable def NL_Layout_putWords_8 (v1 : Int) (v2 : Int) (v3 : Int) (v4 : Int) (n : NS) : Option (Int × NS) :=
  it (fun s : Int × Int × NS => nb_Layout_putWords_8 v1 v2 s.1 s.2.1 s.2.2) (v3, v4, n)
theorem fL_Layout_putWords_8 {w y : Prop} {g : g_S} {n : NS} {m : YS} (hw : w) {xv1 : Nat} {v1 : Int} (ev1 : xv1 = aBy v1) (rv1 : 0 ≤ v1 ∧ v1 ≤ 631) {xv2 : Nat} {v2 : Int} (ev2 : xv2 = aBx v2) (rv2 : 0 ≤ v2 ∧ v2 ≤ 120) {xv3 : Int32} {v3 : Int} (ev3 : xv3 = Int32.ofInt v3) (rv3 : inR v3) {xv4 : Int32} {v4 : Int} (ev4 : xv4 = Int32.ofInt v4) (rv4 : inR v4) (hR : RC w y g n m) : Rf (fun a b => RI a.1 b.1 ∧ RC w y a.2 b.2 m) (L_Layout_putWords_8 1661 xv1 xv2 xv3 xv4 g) (NL_Layout_putWords_8 v1 v2 v3 v4 n) := by
  subst ev1
  subst ev2
  subst ev3
  subst ev4
  unfold L_Layout_putWords_8 NL_Layout_putWords_8
  refine rf_it (I := (fun a b => RI a.1 b.1 ∧ RI a.2.1 b.2.1 ∧ RC w y a.2.2 b.2.2 m)) (fun s t h => ?_) ⟨⟨rfl, rv3⟩, ⟨rfl, rv4⟩, hR⟩
  exact fb_Layout_putWords_8 hw rfl rv1 rfl rv2 h.1.1 h.1.2 h.2.1.1 h.2.1.2 h.2.2
theorem NL_Layout_putWords_8_eq (v1 : Int) (v2 : Int) (v3 : Int) (v4 : Int) (n : NS) : NL_Layout_putWords_8 v1 v2 v3 v4 n = itc (nb_Layout_putWords_8 v1 v2 v3 v4 n) (fun s => NL_Layout_putWords_8 v1 v2 s.1 s.2.1 s.2.2) := it_eq2 (fun s : Int × Int × NS => nb_Layout_putWords_8 v1 v2 s.1 s.2.1 s.2.2) (v3, v4, n)
noncomputable def nk_Layout_putWords_123 (w0 : Int) (n : NS) : Option (NS) :=
  cz w0 <|
  st (nw n 5 0 15 w0) fun n3 =>
  some n3
theorem fk_Layout_putWords_123 {w y : Prop} {g : g_S} {n : NS} {m : YS} (hw : w) {xw0 : Int32} {w0 : Int} (ew0 : xw0 = Int32.ofInt w0) (rw0 : inR w0) (hR : RC w y g n m) : Rf (fun a b => RC w y a b m) (k_Layout_putWords_123 xw0 1661 g) (nk_Layout_putWords_123 w0 n) := by
  subst ew0
  unfold k_Layout_putWords_123 nk_Layout_putWords_123
  refine rf_cz (fun h2 => ?_)
  refine p_Z (s := 15) hR (sK5 hR hw) rfl ⟨rfl, by decide⟩ rfl h2 (fun g5 n3 hR4 => ?_)
  exact rf_ok (by exact hR4)
noncomputable def nk_Layout_putWords_118 (n : NS) : Option (NS) :=
  nk_Layout_putWords_123 1 n
theorem fk_Layout_putWords_118 {w y : Prop} {g : g_S} {n : NS} {m : YS} (hw : w) (hR : RC w y g n m) : Rf (fun a b => RC w y a b m) (k_Layout_putWords_118 1661 g) (nk_Layout_putWords_118 n) := by
  unfold k_Layout_putWords_118 nk_Layout_putWords_118
  exact fk_Layout_putWords_123 hw (e_n 1) (show inR 1 by decide) hR
noncomputable def N_Layout_putWords (v1 : Int) (v2 : Int) (n : NS) : Option (NS) :=
  (NL_Layout_putWords_8 v1 v2 0 (n 3 v2 18) n).bind <| u2 fun z2 n3 =>
  if (n3 5 0 15) = 0 then
    if z2 < (n3 4 v1 2) then
      nk_Layout_putWords_118 n3
    else
      nk_Layout_putWords_123 0 n3
  else
    nk_Layout_putWords_118 n3
theorem f_Layout_putWords {w y : Prop} {g : g_S} {n : NS} {m : YS} (hw : w) {xv1 : Nat} {v1 : Int} (ev1 : xv1 = aBy v1) (rv1 : 0 ≤ v1 ∧ v1 ≤ 631) {xv2 : Nat} {v2 : Int} (ev2 : xv2 = aBx v2) (rv2 : 0 ≤ v2 ∧ v2 ≤ 120) (hR : RC w y g n m) : Rf (fun a b => RC w y a b m) (M_Layout_putWords 1661 xv1 xv2 g) (N_Layout_putWords v1 v2 n) := by
  subst ev1
  subst ev2
  unfold M_Layout_putWords N_Layout_putWords
  refine c_I (s := 18) hR (ce_bx hR hw rv2) rfl rfl (fun h1 => ?_)
  refine rf_bind (fL_Layout_putWords_8 hw rfl rv1 rfl rv2 (e_n 0) (show inR 0 by decide) rfl h1 hR) (fun a b h => ?_)
  obtain ⟨a4, a5⟩ := a
  obtain ⟨z2, n3⟩ := b
  refine rf_u2 ?_
  obtain ⟨rfl, r7⟩ := (show RI a4 z2 from h.1)
  have hR6 : RC w y a5 n3 m := h.2
  refine c_Z (s := 15) hR6 (sK5 hR6 hw) rfl rfl rfl (fun h8 => ?_)
  refine rf_eq rfl (e_n 0) (inZ.r h8) (show inR 0 by decide) ?_ ?_
  · refine c_I (s := 2) hR6 (ce_by hR6 hw rv1) rfl rfl (fun h10 => ?_)
    refine rf_lt rfl rfl r7 h10 ?_ ?_
    · exact fk_Layout_putWords_118 hw hR6
    · exact fk_Layout_putWords_123 hw (e_n 0) (show inR 0 by decide) hR6
  · exact fk_Layout_putWords_118 hw hR6
noncomputable def N_Layout_layInLines (v1 : Int) (v2 : Int) (n : NS) : Option (NS) :=
  ix v1 120 <|
  if (n 7 v1 0) = 10 then
    if (n 5 0 10) = 0 then
      ck (7 * (n 3 v2 11)) <|
      ck ((n 5 0 11) + (7 * (n 3 v2 11))) <|
      st (nw n 5 0 11 ((n 5 0 11) + (7 * (n 3 v2 11)))) fun n14 =>
      (N_Layout_openAt (n14 5 0 11) n14).bind fun n19 =>
      some n19
    else
      (N_Layout_closeLine n).bind fun n24 =>
      some n24
  else
    if (n 3 v2 0) = 2 then
      ck ((-1) - v1) <|
      (N_Layout_putItem ((-1) - v1) (n 3 v2 4) (n 3 v2 11) n).bind fun n34 =>
      some n34
    else
      if (n 3 v2 0) = 1 then
        ix (n 5 0 18) 120 <|
        st (nw n 43 0 (n 5 0 18) v1) fun n43 =>
        ck ((n43 5 0 18) + 1) <|
        st (nw n43 5 0 18 ((n43 5 0 18) + 1)) fun n49 =>
        if (n49 5 0 10) = 0 then
          (N_Layout_putFloat v2 n49).bind fun n55 =>
          ck ((n55 5 0 17) + 1) <|
          st (nw n55 5 0 17 ((n55 5 0 17) + 1)) fun n61 =>
          (N_Layout_openAt (n61 5 0 11) n61).bind fun n66 =>
          some n66
        else
          some n49
      else
        some n
theorem f_Layout_layInLines {w y : Prop} {g : g_S} {n : NS} {m : YS} (hw : w) {xv1 : Int32} {v1 : Int} (ev1 : xv1 = Int32.ofInt v1) (rv1 : inR v1) {xv2 : Nat} {v2 : Int} (ev2 : xv2 = aBx v2) (rv2 : 0 ≤ v2 ∧ v2 ≤ 120) (hR : RC w y g n m) : Rf (fun a b => RC w y a b m) (M_Layout_layInLines 1661 xv1 xv2 g) (N_Layout_layInLines v1 v2 n) := by
  subst ev1
  subst ev2
  unfold M_Layout_layInLines N_Layout_layInLines
  refine c_S hR hw (sK5 hR hw) (by decide) (show srf 5 0 0 = some 5 from rfl) ?_
  refine c_S hR hw (sK10 hR hw) (by decide) (show srf 10 0 0 = some 6 from rfl) ?_
  refine s_S (p := aNd (_)) (L := 120) hR hw (sA20 hR hw) (by decide) (lA20 hR hw) rfl rfl rv1 (fun z1 z2 => srf20 z1 z2) (fun h3 => ?_)
  refine c_I (s := 0) hR (ce_nd hR hw (And.intro h3.1 (Int.le_of_lt h3.2))) rfl rfl (fun h5 => ?_)
  refine rf_eq rfl (e_n 10) h5 (show inR 10 by decide) ?_ ?_
  · refine c_I (s := 10) hR (sK5 hR hw) rfl rfl (fun h7 => ?_)
    refine rf_eq rfl (e_n 0) h7 (show inR 0 by decide) ?_ ?_
    · refine c_I (s := 11) hR (sK5 hR hw) rfl rfl (fun h9 => ?_)
      refine c_I (s := 11) hR (ce_bx hR hw rv2) rfl rfl (fun h10 => ?_)
      refine rf_ck (fun h11 => ?_)
      refine rf_ck (fun h12 => ?_)
      refine p_I (s := 11) hR (sK5 hR hw) rfl ⟨rfl, rfl, by decide⟩ (e_add rfl (e_mul (e_n 7) rfl)) h12 (fun g16 n14 hR15 => ?_)
      refine c_I (s := 11) hR15 (sK5 hR15 hw) rfl rfl (fun h17 => ?_)
      refine v_c (sK5 hR15 hw).1 ?_
      refine rf_bind (f_Layout_openAt hw rfl h17 hR15) (fun g21 n19 hR20 => ?_)
      exact rf_ok (by exact hR20)
    · refine v_c (sK5 hR hw).1 ?_
      refine rf_bind (f_Layout_closeLine hw hR) (fun g26 n24 hR25 => ?_)
      exact rf_ok (by exact hR25)
  · refine c_I (s := 0) hR (ce_bx hR hw rv2) rfl rfl (fun h28 => ?_)
    refine rf_eq rfl (e_n 2) h28 (show inR 2 by decide) ?_ ?_
    · refine rf_ck (fun h30 => ?_)
      refine c_I (s := 4) hR (ce_bx hR hw rv2) rfl rfl (fun h31 => ?_)
      refine c_I (s := 11) hR (ce_bx hR hw rv2) rfl rfl (fun h32 => ?_)
      refine v_c (sK5 hR hw).1 ?_
      refine rf_bind (f_Layout_putItem hw (e_sub (e_m 1) rfl) h30 rfl h31 rfl h32 hR) (fun g36 n34 hR35 => ?_)
      exact rf_ok (by exact hR35)
    · refine c_I (s := 0) hR (ce_bx hR hw rv2) rfl rfl (fun h38 => ?_)
      refine rf_eq rfl (e_n 1) h38 (show inR 1 by decide) ?_ ?_
      · refine c_S hR hw (sK5 hR hw) (by decide) (show srf 5 0 16 = some 1668 from rfl) ?_
        refine c_I (s := 18) hR (sK5 hR hw) rfl rfl (fun h41 => ?_)
        refine t_I (L := 120) hR (sA43 hR hw) (lA43 hR hw) rfl rfl h41 rfl rv1 (fun g45 n43 hR44 => ?_)
        refine c_I (s := 18) hR44 (sK5 hR44 hw) rfl rfl (fun h46 => ?_)
        refine rf_ck (fun h47 => ?_)
        refine p_I (s := 18) hR44 (sK5 hR44 hw) rfl ⟨rfl, rfl, by decide⟩ (e_add rfl (e_n 1)) h47 (fun g51 n49 hR50 => ?_)
        refine c_I (s := 10) hR50 (sK5 hR50 hw) rfl rfl (fun h52 => ?_)
        refine rf_eq rfl (e_n 0) h52 (show inR 0 by decide) ?_ ?_
        · refine v_c (sK5 hR50 hw).1 ?_
          refine rf_bind (f_Layout_putFloat hw rfl rv2 hR50) (fun g57 n55 hR56 => ?_)
          refine c_I (s := 17) hR56 (sK5 hR56 hw) rfl rfl (fun h58 => ?_)
          refine rf_ck (fun h59 => ?_)
          refine p_I (s := 17) hR56 (sK5 hR56 hw) rfl ⟨rfl, rfl, by decide⟩ (e_add rfl (e_n 1)) h59 (fun g63 n61 hR62 => ?_)
          refine c_I (s := 11) hR62 (sK5 hR62 hw) rfl rfl (fun h64 => ?_)
          refine v_c (sK5 hR62 hw).1 ?_
          refine rf_bind (f_Layout_openAt hw rfl h64 hR62) (fun g68 n66 hR67 => ?_)
          exact rf_ok (by exact hR67)
        · exact rf_ok (by exact hR50)
      · exact rf_ok (by exact hR)
