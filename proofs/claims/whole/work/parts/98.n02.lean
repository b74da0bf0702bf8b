/-! methods on numbers, group 2 -/
noncomputable def nb_Reader_readText_7 (v1 : Int) (n : NS) : Option ((Int) ⊕ (Int)) :=
  if v1 < (n 8 0 9) then
    (N_Reader_isTag v1 n).bind fun z4 =>
    if z4 = 0 then
      (N_Reader_isComment v1 n).bind fun z9 =>
      if z9 = 0 then
        ck (v1 + 1) <|
        some (.inl (v1 + 1))
      else
        some (.inr v1)
    else
      some (.inr v1)
  else
    some (.inr v1)
theorem fb_Reader_readText_7 {w y : Prop} {g : g_S} {n : NS} {m : YS} (hw : w) {xv1 : Int32} {v1 : Int} (ev1 : xv1 = Int32.ofInt v1) (rv1 : inR v1) (hR : RC w y g n m) : Rf (RS (fun a b => RI a b) (fun a b => RI a b)) (b_Reader_readText_7 1631 xv1 g) (nb_Reader_readText_7 v1 n) := by
  subst ev1
  unfold b_Reader_readText_7 nb_Reader_readText_7
  refine c_I (s := 9) hR (sK8 hR hw) rfl rfl (fun h1 => ?_)
  refine rf_lt rfl rfl rv1 h1 ?_ ?_
  · refine v_c (sK8 hR hw).1 ?_
    refine rf_bind (f_Reader_isTag hw rfl rv1 hR) (fun a6 z4 h => ?_)
    obtain ⟨rfl, r5⟩ := h
    refine rf_eq rfl (e_n 0) (inZ.r r5) (show inR 0 by decide) ?_ ?_
    · refine v_c (sK8 hR hw).1 ?_
      refine rf_bind (f_Reader_isComment hw rfl rv1 hR) (fun a11 z9 h => ?_)
      obtain ⟨rfl, r10⟩ := h
      refine rf_eq rfl (e_n 0) (inZ.r r10) (show inR 0 by decide) ?_ ?_
      · refine rf_ck (fun h13 => ?_)
        exact rf_ok (by exact ⟨(e_add rfl (e_n 1)), h13⟩)
      · exact rf_ok (by exact ⟨rfl, rv1⟩)
    · exact rf_ok (by exact ⟨rfl, rv1⟩)
  · exact rf_ok (by exact ⟨rfl, rv1⟩)
noncomputable def NL_Reader_readText_7 (v1 : Int) (n : NS) : Option (Int) :=
  it (fun s : Int => nb_Reader_readText_7 s n) (v1)
theorem fL_Reader_readText_7 {w y : Prop} {g : g_S} {n : NS} {m : YS} (hw : w) {xv1 : Int32} {v1 : Int} (ev1 : xv1 = Int32.ofInt v1) (rv1 : inR v1) (hR : RC w y g n m) : Rf (fun a b => RI a b) (L_Reader_readText_7 1631 xv1 g) (NL_Reader_readText_7 v1 n) := by
  subst ev1
  unfold L_Reader_readText_7 NL_Reader_readText_7
  refine rf_it (I := (fun a b => RI a b)) (fun s t h => ?_) ⟨rfl, rv1⟩
  exact fb_Reader_readText_7 hw h.1 h.2 hR
theorem NL_Reader_readText_7_eq (v1 : Int) (n : NS) : NL_Reader_readText_7 v1 n = itc (nb_Reader_readText_7 v1 n) (fun s => NL_Reader_readText_7 s n) := it_eq2 (fun s : Int => nb_Reader_readText_7 s n) (v1)
noncomputable def nk_Reader_readText_37 (v1 : Int) (n : NS) : Option (NS) :=
  (N_Reader_addRun (n 8 0 10) v1 1 n).bind fun n3 =>
  st (nw n3 8 0 10 v1) fun n7 =>
  some n7
theorem fk_Reader_readText_37 {w y : Prop} {g : g_S} {n : NS} {m : YS} (hw : w) {xv1 : Int32} {v1 : Int} (ev1 : xv1 = Int32.ofInt v1) (rv1 : inR v1) (hR : RC w y g n m) : Rf (fun a b => RC w y a b m) (k_Reader_readText_37 1631 xv1 g) (nk_Reader_readText_37 v1 n) := by
  subst ev1
  unfold k_Reader_readText_37 nk_Reader_readText_37
  refine c_I (s := 10) hR (sK8 hR hw) rfl rfl (fun h1 => ?_)
  refine v_c (sK8 hR hw).1 ?_
  refine rf_bind (f_Reader_addRun hw rfl h1 rfl rv1 (e_n 1) (show inR 1 by decide) hR) (fun g5 n3 hR4 => ?_)
  refine p_I (s := 10) hR4 (sK8 hR4 hw) rfl ⟨rfl, rfl, by decide⟩ rfl rv1 (fun g9 n7 hR8 => ?_)
  exact rf_ok (by exact hR8)
noncomputable def N_Reader_readText (n : NS) : Option (NS) :=
  ck ((n 8 0 10) + 1) <|
  (NL_Reader_readText_7 ((n 8 0 10) + 1) n).bind <| fun z3 =>
  nk_Reader_readText_37 z3 n
theorem f_Reader_readText {w y : Prop} {g : g_S} {n : NS} {m : YS} (hw : w) (hR : RC w y g n m) : Rf (fun a b => RC w y a b m) (M_Reader_readText 1631 g) (N_Reader_readText n) := by
  unfold M_Reader_readText N_Reader_readText
  refine c_I (s := 10) hR (sK8 hR hw) rfl rfl (fun h1 => ?_)
  refine rf_ck (fun h2 => ?_)
  refine rf_bind (fL_Reader_readText_7 hw (e_add rfl (e_n 1)) h2 hR) (fun a4 z3 h => ?_)
  obtain ⟨rfl, r5⟩ := (show RI a4 z3 from h)
  exact fk_Reader_readText_37 hw rfl r5 hR
noncomputable def nk_Reader_read_128 (v2 : Int) (v3 : Int) (n : NS) : Option ((Int × NS) ⊕ (NS)) :=
  (N_Reader_isTag (n 8 0 10) n).bind fun z3 =>
  if z3 = 0 then
    (N_Reader_isComment (n 8 0 10) n).bind fun z9 =>
    if z9 = 0 then
      (N_Reader_readText n).bind fun n14 =>
      ck (v3 + 1) <|
      some (.inl (v3 + 1, n14))
    else
      (N_Reader_readComment n).bind fun n19 =>
      ck (v3 + 1) <|
      some (.inl (v3 + 1, n19))
  else
    (N_Reader_readTag n).bind fun n24 =>
    ck (v3 + 1) <|
    some (.inl (v3 + 1, n24))
theorem fk_Reader_read_128 {w y : Prop} {g : g_S} {n : NS} {m : YS} (hw : w) {xv2 : Int32} {v2 : Int} (ev2 : xv2 = Int32.ofInt v2) (rv2 : inR v2) {xv3 : Int32} {v3 : Int} (ev3 : xv3 = Int32.ofInt v3) (rv3 : inR v3) (hR : RC w y g n m) : Rf (RS (fun a b => RI a.1 b.1 ∧ RC w y a.2 b.2 m) (fun a b => RC w y a b m)) (k_Reader_read_128 1631 xv2 xv3 g) (nk_Reader_read_128 v2 v3 n) := by
  subst ev2
  subst ev3
  unfold k_Reader_read_128 nk_Reader_read_128
  refine c_I (s := 10) hR (sK8 hR hw) rfl rfl (fun h1 => ?_)
  refine v_c (sK8 hR hw).1 ?_
  refine rf_bind (f_Reader_isTag hw rfl h1 hR) (fun a5 z3 h => ?_)
  obtain ⟨rfl, r4⟩ := h
  refine rf_eq rfl (e_n 0) (inZ.r r4) (show inR 0 by decide) ?_ ?_
  · refine c_I (s := 10) hR (sK8 hR hw) rfl rfl (fun h7 => ?_)
    refine v_c (sK8 hR hw).1 ?_
    refine rf_bind (f_Reader_isComment hw rfl h7 hR) (fun a11 z9 h => ?_)
    obtain ⟨rfl, r10⟩ := h
    refine rf_eq rfl (e_n 0) (inZ.r r10) (show inR 0 by decide) ?_ ?_
    · refine v_c (sK8 hR hw).1 ?_
      refine rf_bind (f_Reader_readText hw hR) (fun g16 n14 hR15 => ?_)
      refine rf_ck (fun h17 => ?_)
      exact rf_ok (by exact ⟨⟨(e_add rfl (e_n 1)), h17⟩, hR15⟩)
    · refine v_c (sK8 hR hw).1 ?_
      refine rf_bind (f_Reader_readComment hw hR) (fun g21 n19 hR20 => ?_)
      refine rf_ck (fun h22 => ?_)
      exact rf_ok (by exact ⟨⟨(e_add rfl (e_n 1)), h22⟩, hR20⟩)
  · refine v_c (sK8 hR hw).1 ?_
    refine rf_bind (f_Reader_readTag hw hR) (fun g26 n24 hR25 => ?_)
    refine rf_ck (fun h27 => ?_)
    exact rf_ok (by exact ⟨⟨(e_add rfl (e_n 1)), h27⟩, hR25⟩)
noncomputable def nk_Reader_read_94 (v2 : Int) (v3 : Int) (w0 : Int) (n : NS) : Option ((Int × NS) ⊕ (NS)) :=
  if w0 = 0 then
    nk_Reader_read_128 v2 v3 n
  else
    nn (n 8 0 8) <|
    (N_Bytes_stands 1000010 (n 8 0 8) (n 8 0 10) (n 8 0 9) n).bind fun z7 =>
    if z7 = 0 then
      (N_Reader_readRaw n).bind fun n12 =>
      ck (v3 + 1) <|
      some (.inl (v3 + 1, n12))
    else
      nk_Reader_read_128 v2 v3 n
theorem fk_Reader_read_94 {w y : Prop} {g : g_S} {n : NS} {m : YS} (hw : w) {xv2 : Int32} {v2 : Int} (ev2 : xv2 = Int32.ofInt v2) (rv2 : inR v2) {xv3 : Int32} {v3 : Int} (ev3 : xv3 = Int32.ofInt v3) (rv3 : inR v3) {xw0 : Int32} {w0 : Int} (ew0 : xw0 = Int32.ofInt w0) (rw0 : inR w0) (hR : RC w y g n m) : Rf (RS (fun a b => RI a.1 b.1 ∧ RC w y a.2 b.2 m) (fun a b => RC w y a b m)) (k_Reader_read_94 1631 xv2 xv3 xw0 g) (nk_Reader_read_94 v2 v3 w0 n) := by
  subst ev2
  subst ev3
  subst ew0
  unfold k_Reader_read_94 nk_Reader_read_94
  refine rf_eq rfl (e_n 0) rw0 (show inR 0 by decide) ?_ ?_
  · exact fk_Reader_read_128 hw rfl rv2 rfl rv3 hR
  · refine c_D (s := 8) hR (sK8 hR hw) rfl rfl rfl (fun h3 => ?_)
    refine c_I (s := 10) hR (sK8 hR hw) rfl rfl (fun h4 => ?_)
    refine c_I (s := 9) hR (sK8 hR hw) rfl rfl (fun h5 => ?_)
    refine rf_bind (f_Bytes_stands rfl h3 rfl h4 rfl h5 hR) (fun a9 z7 h => ?_)
    obtain ⟨rfl, r8⟩ := h
    refine rf_eq rfl (e_n 0) (inZ.r r8) (show inR 0 by decide) ?_ ?_
    · refine v_c (sK8 hR hw).1 ?_
      refine rf_bind (f_Reader_readRaw hw hR) (fun g14 n12 hR13 => ?_)
      refine rf_ck (fun h15 => ?_)
      exact rf_ok (by exact ⟨⟨(e_add rfl (e_n 1)), h15⟩, hR13⟩)
    · exact fk_Reader_read_128 hw rfl rv2 rfl rv3 hR
noncomputable def nb_Reader_read_46 (v2 : Int) (v3 : Int) (n : NS) : Option ((Int × NS) ⊕ (NS)) :=
  if v2 < v3 then
    some (.inr n)
  else
    if (n 8 0 10) < (n 8 0 9) then
      ck ((n 8 0 6) - 1) <|
      ix ((n 8 0 6) - 1) 22 <|
      ix (n 30 0 ((n 8 0 6) - 1)) 120 <|
      if (n 7 (n 30 0 ((n 8 0 6) - 1)) 0) = 15 then
        nk_Reader_read_94 v2 v3 1 n
      else
        nk_Reader_read_94 v2 v3 0 n
    else
      some (.inr n)
theorem fb_Reader_read_46 {w y : Prop} {g : g_S} {n : NS} {m : YS} (hw : w) {xv2 : Int32} {v2 : Int} (ev2 : xv2 = Int32.ofInt v2) (rv2 : inR v2) {xv3 : Int32} {v3 : Int} (ev3 : xv3 = Int32.ofInt v3) (rv3 : inR v3) (hR : RC w y g n m) : Rf (RS (fun a b => RI a.1 b.1 ∧ RC w y a.2 b.2 m) (fun a b => RC w y a b m)) (b_Reader_read_46 1631 xv2 xv3 g) (nb_Reader_read_46 v2 v3 n) := by
  subst ev2
  subst ev3
  unfold b_Reader_read_46 nb_Reader_read_46
  refine rf_lt rfl rfl rv2 rv3 ?_ ?_
  · exact rf_ok (by exact hR)
  · refine c_I (s := 10) hR (sK8 hR hw) rfl rfl (fun h2 => ?_)
    refine c_I (s := 9) hR (sK8 hR hw) rfl rfl (fun h3 => ?_)
    refine rf_lt rfl rfl h2 h3 ?_ ?_
    · refine c_S hR hw (sK8 hR hw) (by decide) (show srf 8 0 0 = some 5 from rfl) ?_
      refine c_S hR hw (sK10 hR hw) (by decide) (show srf 10 0 0 = some 6 from rfl) ?_
      refine c_S hR hw (sK8 hR hw) (by decide) (show srf 8 0 4 = some 1634 from rfl) ?_
      refine c_I (s := 6) hR (sK8 hR hw) rfl rfl (fun h8 => ?_)
      refine rf_ck (fun h9 => ?_)
      refine s_I (L := 22) hR (sA30 hR hw) rfl (lA30 hR hw) rfl (e_sub rfl (e_n 1)) h9 (fun h10 h11 => ?_)
      refine s_S (p := aNd (_)) (L := 120) hR hw (sA20 hR hw) (by decide) (lA20 hR hw) rfl rfl h11 (fun z1 z2 => srf20 z1 z2) (fun h12 => ?_)
      refine c_I (s := 0) hR (ce_nd hR hw (And.intro h12.1 (Int.le_of_lt h12.2))) rfl rfl (fun h14 => ?_)
      refine rf_eq rfl (e_n 15) h14 (show inR 15 by decide) ?_ ?_
      · exact fk_Reader_read_94 hw rfl rv2 rfl rv3 (e_n 1) (show inR 1 by decide) hR
      · exact fk_Reader_read_94 hw rfl rv2 rfl rv3 (e_n 0) (show inR 0 by decide) hR
    · exact rf_ok (by exact hR)
noncomputable def NL_Reader_read_46 (v2 : Int) (v3 : Int) (n : NS) : Option (NS) :=
  it (fun s : Int × NS => nb_Reader_read_46 v2 s.1 s.2) (v3, n)
theorem fL_Reader_read_46 {w y : Prop} {g : g_S} {n : NS} {m : YS} (hw : w) {xv2 : Int32} {v2 : Int} (ev2 : xv2 = Int32.ofInt v2) (rv2 : inR v2) {xv3 : Int32} {v3 : Int} (ev3 : xv3 = Int32.ofInt v3) (rv3 : inR v3) (hR : RC w y g n m) : Rf (fun a b => RC w y a b m) (L_Reader_read_46 1631 xv2 xv3 g) (NL_Reader_read_46 v2 v3 n) := by
  subst ev2
  subst ev3
  unfold L_Reader_read_46 NL_Reader_read_46
  refine rf_it (I := (fun a b => RI a.1 b.1 ∧ RC w y a.2 b.2 m)) (fun s t h => ?_) ⟨⟨rfl, rv3⟩, hR⟩
  exact fb_Reader_read_46 hw rfl rv2 h.1.1 h.1.2 h.2
theorem NL_Reader_read_46_eq (v2 : Int) (v3 : Int) (n : NS) : NL_Reader_read_46 v2 v3 n = itc (nb_Reader_read_46 v2 v3 n) (fun s => NL_Reader_read_46 v2 s.1 s.2) := it_eq2 (fun s : Int × NS => nb_Reader_read_46 v2 s.1 s.2) (v3, n)
noncomputable def nk_Reader_read_174 (n : NS) : Option (NS) :=
  (N_Reader_closeTo 0 n).bind fun n2 =>
  some n2
theorem fk_Reader_read_174 {w y : Prop} {g : g_S} {n : NS} {m : YS} (hw : w) (hR : RC w y g n m) : Rf (fun a b => RC w y a b m) (k_Reader_read_174 1631 g) (nk_Reader_read_174 n) := by
  unfold k_Reader_read_174 nk_Reader_read_174
  refine v_c (sK8 hR hw).1 ?_
  refine rf_bind (f_Reader_closeTo hw (e_n 0) (show inR 0 by decide) hR) (fun g4 n2 hR3 => ?_)
  exact rf_ok (by exact hR3)
noncomputable def N_Reader_read (v1 : Int) (v2 : Int) (n : NS) : Option (NS) :=
  st (nw n 8 0 8 v1) fun n2 =>
  st (nw n2 8 0 9 v2) fun n6 =>
  st (nw n6 8 0 10 0) fun n10 =>
  st (nw n10 8 0 3 0) fun n14 =>
  st (nw n14 8 0 11 (-1)) fun n18 =>
  (N_Tree_clear n18).bind fun n23 =>
  ix 0 22 <|
  st (nw n23 30 0 0 0) fun n28 =>
  st (nw n28 8 0 6 1) fun n32 =>
  (NL_Reader_read_46 v2 0 n32).bind <| fun n35 =>
  nk_Reader_read_174 n35
theorem f_Reader_read {w y : Prop} {g : g_S} {n : NS} {m : YS} (hw : w) {xv1 : Nat} {v1 : Int} (ev1 : xv1 = Int.toNat v1) (rv1 : 0 ≤ v1 ∧ lc (Int.toNat v1) = (99, v1)) {xv2 : Int32} {v2 : Int} (ev2 : xv2 = Int32.ofInt v2) (rv2 : inR v2) (hR : RC w y g n m) : Rf (fun a b => RC w y a b m) (M_Reader_read 1631 xv1 xv2 g) (N_Reader_read v1 v2 n) := by
  subst ev1
  subst ev2
  unfold M_Reader_read N_Reader_read
  refine p_R (s := 8) (a := _) hR (sK8 hR hw) rfl rfl rfl (rc_d rv1) (fun g4 n2 hR3 => ?_)
  refine p_I (s := 9) hR3 (sK8 hR3 hw) rfl ⟨rfl, rfl, by decide⟩ rfl rv2 (fun g8 n6 hR7 => ?_)
  refine p_I (s := 10) hR7 (sK8 hR7 hw) rfl ⟨rfl, rfl, by decide⟩ (e_n 0) (show inR 0 by decide) (fun g12 n10 hR11 => ?_)
  refine p_I (s := 3) hR11 (sK8 hR11 hw) rfl ⟨rfl, rfl, by decide⟩ (e_n 0) (show inR 0 by decide) (fun g16 n14 hR15 => ?_)
  refine p_I (s := 11) hR15 (sK8 hR15 hw) rfl ⟨rfl, rfl, by decide⟩ (e_m 1) (show inR (-1) by decide) (fun g20 n18 hR19 => ?_)
  refine c_S hR19 hw (sK8 hR19 hw) (by decide) (show srf 8 0 0 = some 5 from rfl) ?_
  refine v_c (sK10 hR19 hw).1 ?_
  refine rf_bind (f_Tree_clear hw hR19) (fun g25 n23 hR24 => ?_)
  refine c_S hR24 hw (sK8 hR24 hw) (by decide) (show srf 8 0 4 = some 1634 from rfl) ?_
  refine t_I (L := 22) hR24 (sA30 hR24 hw) (lA30 hR24 hw) rfl (e_n 0) (show inR 0 by decide) (e_n 0) (show inR 0 by decide) (fun g30 n28 hR29 => ?_)
  refine p_I (s := 6) hR29 (sK8 hR29 hw) rfl ⟨rfl, rfl, by decide⟩ (e_n 1) (show inR 1 by decide) (fun g34 n32 hR33 => ?_)
  refine rf_bind (fL_Reader_read_46 hw rfl rv2 (e_n 0) (show inR 0 by decide) hR33) (fun a36 n35 h => ?_)
  have hR37 : RC w y a36 n35 m := h
  exact fk_Reader_read_174 hw hR37
noncomputable def nb_Tree_list_86 (v2 : Int) (v3 : Int) (n : NS) : Option ((Int × Int) ⊕ (Int)) :=
  if v2 = (-1) then
    if v3 = (-1) then
      some (.inr v2)
    else
      ix v3 120 <|
      ix v3 120 <|
      some (.inl ((n 7 v3 5), (n 7 v3 2)))
  else
    some (.inr v2)
theorem fb_Tree_list_86 {w y : Prop} {g : g_S} {n : NS} {m : YS} (hw : w) {xv2 : Int32} {v2 : Int} (ev2 : xv2 = Int32.ofInt v2) (rv2 : inR v2) {xv3 : Int32} {v3 : Int} (ev3 : xv3 = Int32.ofInt v3) (rv3 : inR v3) (hR : RC w y g n m) : Rf (RS (fun a b => RI a.1 b.1 ∧ RI a.2 b.2) (fun a b => RI a b)) (b_Tree_list_86 5 xv2 xv3 g) (nb_Tree_list_86 v2 v3 n) := by
  subst ev2
  subst ev3
  unfold b_Tree_list_86 nb_Tree_list_86
  refine rf_eq rfl (e_m 1) rv2 (show inR (-1) by decide) ?_ ?_
  · refine rf_eq rfl (e_m 1) rv3 (show inR (-1) by decide) ?_ ?_
    · exact rf_ok (by exact ⟨rfl, rv2⟩)
    · refine c_S hR hw (sK10 hR hw) (by decide) (show srf 10 0 0 = some 6 from rfl) ?_
      refine s_S (p := aNd (_)) (L := 120) hR hw (sA20 hR hw) (by decide) (lA20 hR hw) rfl rfl rv3 (fun z1 z2 => srf20 z1 z2) (fun h4 => ?_)
      refine c_I (s := 5) hR (ce_nd hR hw (And.intro h4.1 (Int.le_of_lt h4.2))) rfl rfl (fun h6 => ?_)
      refine c_S hR hw (sK10 hR hw) (by decide) (show srf 10 0 0 = some 6 from rfl) ?_
      refine s_S (p := aNd (_)) (L := 120) hR hw (sA20 hR hw) (by decide) (lA20 hR hw) rfl rfl rv3 (fun z1 z2 => srf20 z1 z2) (fun h8 => ?_)
      refine c_I (s := 2) hR (ce_nd hR hw (And.intro h8.1 (Int.le_of_lt h8.2))) rfl rfl (fun h10 => ?_)
      exact rf_ok (by exact ⟨⟨rfl, h6⟩, ⟨rfl, h10⟩⟩)
  · exact rf_ok (by exact ⟨rfl, rv2⟩)
noncomputable def NL_Tree_list_86 (v2 : Int) (v3 : Int) (n : NS) : Option (Int) :=
  it (fun s : Int × Int => nb_Tree_list_86 s.1 s.2 n) (v2, v3)
theorem fL_Tree_list_86 {w y : Prop} {g : g_S} {n : NS} {m : YS} (hw : w) {xv2 : Int32} {v2 : Int} (ev2 : xv2 = Int32.ofInt v2) (rv2 : inR v2) {xv3 : Int32} {v3 : Int} (ev3 : xv3 = Int32.ofInt v3) (rv3 : inR v3) (hR : RC w y g n m) : Rf (fun a b => RI a b) (L_Tree_list_86 5 xv2 xv3 g) (NL_Tree_list_86 v2 v3 n) := by
  subst ev2
  subst ev3
  unfold L_Tree_list_86 NL_Tree_list_86
  refine rf_it (I := (fun a b => RI a.1 b.1 ∧ RI a.2 b.2)) (fun s t h => ?_) ⟨⟨rfl, rv2⟩, ⟨rfl, rv3⟩⟩
  exact fb_Tree_list_86 hw h.1.1 h.1.2 h.2.1 h.2.2 hR
theorem NL_Tree_list_86_eq (v2 : Int) (v3 : Int) (n : NS) : NL_Tree_list_86 v2 v3 n = itc (nb_Tree_list_86 v2 v3 n) (fun s => NL_Tree_list_86 s.1 s.2 n) := it_eq2 (fun s : Int × Int => nb_Tree_list_86 s.1 s.2 n) (v2, v3)
noncomputable def nk_Tree_list_174 (v2 : Int) (w0 : Int) (w1 : Int) (n : NS) : Option ((Int × NS) ⊕ (NS)) :=
  st (nw n 7 w1 9 w0) fun n2 =>
  ck (v2 + (-1)) <|
  some (.inl (v2 + (-1), n2))
theorem fk_Tree_list_174 {w y : Prop} {g : g_S} {n : NS} {m : YS} (hw : w) {xv2 : Int32} {v2 : Int} (ev2 : xv2 = Int32.ofInt v2) (rv2 : inR v2) {xw0 : Int32} {w0 : Int} (ew0 : xw0 = Int32.ofInt w0) (rw0 : inR w0) {xw1 : Nat} {w1 : Int} (ew1 : xw1 = aNd w1) (rw1 : 0 ≤ w1 ∧ w1 ≤ 120) (hR : RC w y g n m) : Rf (RS (fun a b => RI a.1 b.1 ∧ RC w y a.2 b.2 m) (fun a b => RC w y a b m)) (k_Tree_list_174 5 xv2 xw0 xw1 g) (nk_Tree_list_174 v2 w0 w1 n) := by
  subst ev2
  subst ew0
  subst ew1
  unfold k_Tree_list_174 nk_Tree_list_174
  refine p_I (s := 9) hR (ce_nd hR hw rw1) rfl ⟨rfl, rfl, by decide⟩ rfl rw0 (fun g4 n2 hR3 => ?_)
  refine rf_ck (fun h5 => ?_)
  exact rf_ok (by exact ⟨⟨(e_add rfl (e_m 1)), h5⟩, hR3⟩)
noncomputable def nb_Tree_list_131 (v2 : Int) (n : NS) : Option ((Int × NS) ⊕ (NS)) :=
  if v2 < 0 then
    some (.inr n)
  else
    ix v2 120 <|
    ix (n 22 0 v2) 120 <|
    if (n 7 (n 22 0 v2) 4) = (-1) then
      ck (v2 + 1) <|
      nk_Tree_list_174 v2 (v2 + 1) (n 22 0 v2) n
    else
      ix (n 7 (n 22 0 v2) 4) 120 <|
      nk_Tree_list_174 v2 (n 7 (n 7 (n 22 0 v2) 4) 9) (n 22 0 v2) n
theorem fb_Tree_list_131 {w y : Prop} {g : g_S} {n : NS} {m : YS} (hw : w) {xv2 : Int32} {v2 : Int} (ev2 : xv2 = Int32.ofInt v2) (rv2 : inR v2) (hR : RC w y g n m) : Rf (RS (fun a b => RI a.1 b.1 ∧ RC w y a.2 b.2 m) (fun a b => RC w y a b m)) (b_Tree_list_131 5 xv2 g) (nb_Tree_list_131 v2 n) := by
  subst ev2
  unfold b_Tree_list_131 nb_Tree_list_131
  refine rf_lt rfl (e_n 0) rv2 (show inR 0 by decide) ?_ ?_
  · exact rf_ok (by exact hR)
  · refine c_S hR hw (sK10 hR hw) (by decide) (show srf 10 0 0 = some 6 from rfl) ?_
    refine c_S hR hw (sK10 hR hw) (by decide) (show srf 10 0 2 = some 8 from rfl) ?_
    refine s_I (L := 120) hR (sA22 hR hw) rfl (lA22 hR hw) rfl rfl rv2 (fun h4 h5 => ?_)
    refine s_S (p := aNd (_)) (L := 120) hR hw (sA20 hR hw) (by decide) (lA20 hR hw) rfl rfl h5 (fun z1 z2 => srf20 z1 z2) (fun h6 => ?_)
    refine c_I (s := 4) hR (ce_nd hR hw (And.intro h6.1 (Int.le_of_lt h6.2))) rfl rfl (fun h8 => ?_)
    refine rf_eq rfl (e_m 1) h8 (show inR (-1) by decide) ?_ ?_
    · refine rf_ck (fun h10 => ?_)
      exact fk_Tree_list_174 hw rfl rv2 (e_add rfl (e_n 1)) h10 rfl (And.intro h6.1 (Int.le_of_lt h6.2)) hR
    · refine c_S hR hw (sK10 hR hw) (by decide) (show srf 10 0 0 = some 6 from rfl) ?_
      refine c_I (s := 4) hR (ce_nd hR hw (And.intro h6.1 (Int.le_of_lt h6.2))) rfl rfl (fun h12 => ?_)
      refine s_S (p := aNd (_)) (L := 120) hR hw (sA20 hR hw) (by decide) (lA20 hR hw) rfl rfl h12 (fun z1 z2 => srf20 z1 z2) (fun h13 => ?_)
      refine c_I (s := 9) hR (ce_nd hR hw (And.intro h13.1 (Int.le_of_lt h13.2))) rfl rfl (fun h15 => ?_)
      exact fk_Tree_list_174 hw rfl rv2 rfl h15 rfl (And.intro h6.1 (Int.le_of_lt h6.2)) hR
noncomputable def NL_Tree_list_131 (v2 : Int) (n : NS) : Option (NS) :=
  it (fun s : Int × NS => nb_Tree_list_131 s.1 s.2) (v2, n)
theorem fL_Tree_list_131 {w y : Prop} {g : g_S} {n : NS} {m : YS} (hw : w) {xv2 : Int32} {v2 : Int} (ev2 : xv2 = Int32.ofInt v2) (rv2 : inR v2) (hR : RC w y g n m) : Rf (fun a b => RC w y a b m) (L_Tree_list_131 5 xv2 g) (NL_Tree_list_131 v2 n) := by
  subst ev2
  unfold L_Tree_list_131 NL_Tree_list_131
  refine rf_it (I := (fun a b => RI a.1 b.1 ∧ RC w y a.2 b.2 m)) (fun s t h => ?_) ⟨⟨rfl, rv2⟩, hR⟩
  exact fb_Tree_list_131 hw h.1.1 h.1.2 h.2
theorem NL_Tree_list_131_eq (v2 : Int) (n : NS) : NL_Tree_list_131 v2 n = itc (nb_Tree_list_131 v2 n) (fun s => NL_Tree_list_131 s.1 s.2) := it_eq2 (fun s : Int × NS => nb_Tree_list_131 s.1 s.2) (v2, n)
noncomputable def nb_Tree_list_27 (v1 : Int) (n : NS) : Option ((Int × NS) ⊕ (NS)) :=
  if v1 = (-1) then
    some (.inr n)
  else
    if (n 10 0 3) < 120 then
      ix v1 120 <|
      st (nw n 7 v1 8 (n 10 0 3)) fun n9 =>
      ix (n9 10 0 3) 120 <|
      st (nw n9 22 0 (n9 10 0 3) v1) fun n15 =>
      ck ((n15 10 0 3) + 1) <|
      st (nw n15 10 0 3 ((n15 10 0 3) + 1)) fun n21 =>
      ix v1 120 <|
      (NL_Tree_list_86 (n21 7 v1 3) v1 n21).bind <| fun z28 =>
      some (.inl (z28, n21))
    else
      some (.inr n)
theorem fb_Tree_list_27 {w y : Prop} {g : g_S} {n : NS} {m : YS} (hw : w) {xv1 : Int32} {v1 : Int} (ev1 : xv1 = Int32.ofInt v1) (rv1 : inR v1) (hR : RC w y g n m) : Rf (RS (fun a b => RI a.1 b.1 ∧ RC w y a.2 b.2 m) (fun a b => RC w y a b m)) (b_Tree_list_27 5 xv1 g) (nb_Tree_list_27 v1 n) := by
  subst ev1
  unfold b_Tree_list_27 nb_Tree_list_27
  refine rf_eq rfl (e_m 1) rv1 (show inR (-1) by decide) ?_ ?_
  · exact rf_ok (by exact hR)
  · refine c_I (s := 3) hR (sK10 hR hw) rfl rfl (fun h2 => ?_)
    refine rf_lt rfl (e_n 120) h2 (show inR 120 by decide) ?_ ?_
    · refine c_S hR hw (sK10 hR hw) (by decide) (show srf 10 0 0 = some 6 from rfl) ?_
      refine s_S (p := aNd (_)) (L := 120) hR hw (sA20 hR hw) (by decide) (lA20 hR hw) rfl rfl rv1 (fun z1 z2 => srf20 z1 z2) (fun h5 => ?_)
      refine c_I (s := 3) hR (sK10 hR hw) rfl rfl (fun h7 => ?_)
      refine p_I (s := 8) hR (ce_nd hR hw (And.intro h5.1 (Int.le_of_lt h5.2))) rfl ⟨rfl, rfl, by decide⟩ rfl h7 (fun g11 n9 hR10 => ?_)
      refine c_S hR10 hw (sK10 hR10 hw) (by decide) (show srf 10 0 2 = some 8 from rfl) ?_
      refine c_I (s := 3) hR10 (sK10 hR10 hw) rfl rfl (fun h13 => ?_)
      refine t_I (L := 120) hR10 (sA22 hR10 hw) (lA22 hR10 hw) rfl rfl h13 rfl rv1 (fun g17 n15 hR16 => ?_)
      refine c_I (s := 3) hR16 (sK10 hR16 hw) rfl rfl (fun h18 => ?_)
      refine rf_ck (fun h19 => ?_)
      refine p_I (s := 3) hR16 (sK10 hR16 hw) rfl ⟨rfl, rfl, by decide⟩ (e_add rfl (e_n 1)) h19 (fun g23 n21 hR22 => ?_)
      refine c_S hR22 hw (sK10 hR22 hw) (by decide) (show srf 10 0 0 = some 6 from rfl) ?_
      refine s_S (p := aNd (_)) (L := 120) hR22 hw (sA20 hR22 hw) (by decide) (lA20 hR22 hw) rfl rfl rv1 (fun z1 z2 => srf20 z1 z2) (fun h25 => ?_)
      refine c_I (s := 3) hR22 (ce_nd hR22 hw (And.intro h25.1 (Int.le_of_lt h25.2))) rfl rfl (fun h27 => ?_)
      refine rf_bind (fL_Tree_list_86 hw rfl h27 rfl rv1 hR22) (fun a29 z28 h => ?_)
      obtain ⟨rfl, r30⟩ := (show RI a29 z28 from h)
      exact rf_ok (by exact ⟨⟨rfl, r30⟩, hR22⟩)
    · exact rf_ok (by exact hR)
noncomputable def NL_Tree_list_27 (v1 : Int) (n : NS) : Option (NS) :=
  it (fun s : Int × NS => nb_Tree_list_27 s.1 s.2) (v1, n)
theorem fL_Tree_list_27 {w y : Prop} {g : g_S} {n : NS} {m : YS} (hw : w) {xv1 : Int32} {v1 : Int} (ev1 : xv1 = Int32.ofInt v1) (rv1 : inR v1) (hR : RC w y g n m) : Rf (fun a b => RC w y a b m) (L_Tree_list_27 5 xv1 g) (NL_Tree_list_27 v1 n) := by
  subst ev1
  unfold L_Tree_list_27 NL_Tree_list_27
  refine rf_it (I := (fun a b => RI a.1 b.1 ∧ RC w y a.2 b.2 m)) (fun s t h => ?_) ⟨⟨rfl, rv1⟩, hR⟩
  exact fb_Tree_list_27 hw h.1.1 h.1.2 h.2
theorem NL_Tree_list_27_eq (v1 : Int) (n : NS) : NL_Tree_list_27 v1 n = itc (nb_Tree_list_27 v1 n) (fun s => NL_Tree_list_27 s.1 s.2) := it_eq2 (fun s : Int × NS => nb_Tree_list_27 s.1 s.2) (v1, n)
noncomputable def nk_Tree_list_124 (n : NS) : Option (NS) :=
  ck ((n 10 0 3) - 1) <|
  (NL_Tree_list_131 ((n 10 0 3) - 1) n).bind <| fun n3 =>
  some n3
theorem fk_Tree_list_124 {w y : Prop} {g : g_S} {n : NS} {m : YS} (hw : w) (hR : RC w y g n m) : Rf (fun a b => RC w y a b m) (k_Tree_list_124 5 g) (nk_Tree_list_124 n) := by
  unfold k_Tree_list_124 nk_Tree_list_124
  refine c_I (s := 3) hR (sK10 hR hw) rfl rfl (fun h1 => ?_)
  refine rf_ck (fun h2 => ?_)
  refine rf_bind (fL_Tree_list_131 hw (e_sub rfl (e_n 1)) h2 hR) (fun a4 n3 h => ?_)
  have hR5 : RC w y a4 n3 m := h
  exact rf_ok (by exact hR5)
noncomputable def N_Tree_list (n : NS) : Option (NS) :=
  if (n 10 0 4) = (n 10 0 6) then
    some n
  else
    st (nw n 10 0 4 (n 10 0 6)) fun n7 =>
    st (nw n7 10 0 3 0) fun n11 =>
    (NL_Tree_list_27 0 n11).bind <| fun n14 =>
    nk_Tree_list_124 n14
theorem f_Tree_list {w y : Prop} {g : g_S} {n : NS} {m : YS} (hw : w) (hR : RC w y g n m) : Rf (fun a b => RC w y a b m) (M_Tree_list 5 g) (N_Tree_list n) := by
  unfold M_Tree_list N_Tree_list
  refine c_I (s := 4) hR (sK10 hR hw) rfl rfl (fun h1 => ?_)
  refine c_I (s := 6) hR (sK10 hR hw) rfl rfl (fun h2 => ?_)
  refine rf_eq rfl rfl h1 h2 ?_ ?_
  · exact rf_ok (by exact hR)
  · refine c_I (s := 6) hR (sK10 hR hw) rfl rfl (fun h5 => ?_)
    refine p_I (s := 4) hR (sK10 hR hw) rfl ⟨rfl, rfl, by decide⟩ rfl h5 (fun g9 n7 hR8 => ?_)
    refine p_I (s := 3) hR8 (sK10 hR8 hw) rfl ⟨rfl, rfl, by decide⟩ (e_n 0) (show inR 0 by decide) (fun g13 n11 hR12 => ?_)
    refine rf_bind (fL_Tree_list_27 hw (e_n 0) (show inR 0 by decide) hR12) (fun a15 n14 h => ?_)
    have hR16 : RC w y a15 n14 m := h
    exact fk_Tree_list_124 hw hR16
noncomputable def N_Node_read (v0 : Int) (v1 : Nat) (n : NS) : Option (Int) :=
  (N_Bytes_pack_1 v1 n).bind fun z2 =>
  (N_Node_find v0 z2 n).bind fun z6 =>
  if z6 < 0 then
    some (-1)
  else
    some z6
theorem f_Node_read {w y : Prop} {g : g_S} {n : NS} {m : YS} (hw : w) {xv0 : Nat} {v0 : Int} (ev0 : xv0 = aNd v0) (rv0 : 0 ≤ v0 ∧ v0 ≤ 120) {v1 : Nat} (hR : RC w y g n m) : Rf (fun a b => RoB a b) (M_Node_read xv0 v1 g) (N_Node_read v0 v1 n) := by
  subst ev0
  unfold M_Node_read N_Node_read
  refine rf_bind (f_Bytes_pack_1 hR) (fun a4 z2 h => ?_)
  obtain ⟨rfl, r3⟩ := h
  refine v_c (ce_nd hR hw rv0).1 ?_
  refine rf_bind (f_Node_find hw rfl rv0 rfl r3 hR) (fun a8 z6 h => ?_)
  obtain ⟨rfl, r7⟩ := h
  refine rf_oy (fun h9 => ?_) (fun h9 => ?_)
  · exact rf_ok (by exact ⟨(oy_s (And.intro h9 r7).1), (And.intro h9 r7).2⟩)
  · exact rf_ok (by exact ⟨oy_n, (show (-1 : Int) ≤ 631 by decide)⟩)
noncomputable def N_Tree_markOf (v1 : Int) (n : NS) : Option (Int) :=
  ix v1 120 <|
  ckL ((n 7 v1 10) * 128) <|
  ckL (((n 7 v1 10) * 128) + v1) <|
  some (((n 7 v1 10) * 128) + v1)
theorem f_Tree_markOf {w y : Prop} {g : g_S} {n : NS} {m : YS} (hw : w) {xv1 : Int32} {v1 : Int} (ev1 : xv1 = Int32.ofInt v1) (rv1 : inR v1) (hR : RC w y g n m) : Rf (fun a b => RJ a b) (M_Tree_markOf 5 xv1 g) (N_Tree_markOf v1 n) := by
  subst ev1
  unfold M_Tree_markOf N_Tree_markOf
  refine c_S hR hw (sK10 hR hw) (by decide) (show srf 10 0 0 = some 6 from rfl) ?_
  refine s_S (p := aNd (_)) (L := 120) hR hw (sA20 hR hw) (by decide) (lA20 hR hw) rfl rfl rv1 (fun z1 z2 => srf20 z1 z2) (fun h2 => ?_)
  refine c_L (s := 10) hR (ce_nd hR hw (And.intro h2.1 (Int.le_of_lt h2.2))) rfl rfl (fun h4 => ?_)
  refine rf_ckL (fun h6 => ?_)
  refine rf_ckL (fun h7 => ?_)
  exact rf_ok (by exact ⟨(f_add (f_mul rfl (f_n 128)) (f_i2l rfl rv1)), h7⟩)
noncomputable def nb_Acts_startPage_48 (v1 : Int) (n : NS) : Option ((Int × NS) ⊕ (NS)) :=
  if v1 < (n 10 0 3) then
    ix v1 120 <|
    ix (n 22 0 v1) 120 <|
    (N_Node_read (n 22 0 v1) 1000021 n).bind fun z14 =>
    if z14 < 0 then
      ck (v1 + 1) <|
      some (.inl (v1 + 1, n))
    else
      (N_Tree_markOf (n 22 0 v1) n).bind fun z23 =>
      ix (n 0 0 16) 120 <|
      st (nw n 46 0 (n 0 0 16) z23) fun n27 =>
      ck ((n27 0 0 16) + 1) <|
      st (nw n27 0 0 16 ((n27 0 0 16) + 1)) fun n33 =>
      ck (v1 + 1) <|
      some (.inl (v1 + 1, n33))
  else
    some (.inr n)
theorem fb_Acts_startPage_48 {w y : Prop} {g : g_S} {n : NS} {m : YS} (hw : w) {xv1 : Int32} {v1 : Int} (ev1 : xv1 = Int32.ofInt v1) (rv1 : inR v1) (hR : RC w y g n m) : Rf (RS (fun a b => RI a.1 b.1 ∧ RC w y a.2 b.2 m) (fun a b => RC w y a b m)) (b_Acts_startPage_48 1789 xv1 g) (nb_Acts_startPage_48 v1 n) := by
  subst ev1
  unfold b_Acts_startPage_48 nb_Acts_startPage_48
  refine c_S hR hw (sK0 hR hw) (by decide) (show srf 0 0 0 = some 5 from rfl) ?_
  refine c_I (s := 3) hR (sK10 hR hw) rfl rfl (fun h2 => ?_)
  refine rf_lt rfl rfl rv1 h2 ?_ ?_
  · refine c_S hR hw (sK0 hR hw) (by decide) (show srf 0 0 0 = some 5 from rfl) ?_
    refine c_S hR hw (sK10 hR hw) (by decide) (show srf 10 0 2 = some 8 from rfl) ?_
    refine s_I (L := 120) hR (sA22 hR hw) rfl (lA22 hR hw) rfl rfl rv1 (fun h6 h7 => ?_)
    refine c_S hR hw (sK0 hR hw) (by decide) (show srf 0 0 0 = some 5 from rfl) ?_
    refine c_S hR hw (sK10 hR hw) (by decide) (show srf 10 0 0 = some 6 from rfl) ?_
    refine s_S (p := aNd (_)) (L := 120) hR hw (sA20 hR hw) (by decide) (lA20 hR hw) rfl rfl h7 (fun z1 z2 => srf20 z1 z2) (fun h10 => ?_)
    refine v_c (ce_nd hR hw (And.intro h10.1 (Int.le_of_lt h10.2))).1 ?_
    refine rf_bind (f_Node_read hw rfl (And.intro h10.1 (Int.le_of_lt h10.2)) hR) (fun a16 z14 h => ?_)
    obtain ⟨rfl, r15⟩ := h
    refine rf_oy (fun h17 => ?_) (fun h17 => ?_)
    · refine c_S hR hw (sK0 hR hw) (by decide) (show srf 0 0 14 = some 1794 from rfl) ?_
      refine c_I (s := 16) hR (sK0 hR hw) rfl rfl (fun h20 => ?_)
      refine c_S hR hw (sK0 hR hw) (by decide) (show srf 0 0 0 = some 5 from rfl) ?_
      refine v_c (sK10 hR hw).1 ?_
      refine rf_bind (f_Tree_markOf hw rfl h7 hR) (fun a25 z23 h => ?_)
      obtain ⟨rfl, r24⟩ := h
      refine t_L (L := 120) hR (sA46 hR hw) (lA46 hR hw) rfl rfl h20 rfl r24 (fun g29 n27 hR28 => ?_)
      refine c_I (s := 16) hR28 (sK0 hR28 hw) rfl rfl (fun h30 => ?_)
      refine rf_ck (fun h31 => ?_)
      refine p_I (s := 16) hR28 (sK0 hR28 hw) rfl ⟨rfl, rfl, by decide⟩ (e_add rfl (e_n 1)) h31 (fun g35 n33 hR34 => ?_)
      refine rf_ck (fun h36 => ?_)
      exact rf_ok (by exact ⟨⟨(e_add rfl (e_n 1)), h36⟩, hR34⟩)
    · refine rf_ck (fun h38 => ?_)
      exact rf_ok (by exact ⟨⟨(e_add rfl (e_n 1)), h38⟩, hR⟩)
  · exact rf_ok (by exact hR)
noncomputable def NL_Acts_startPage_48 (v1 : Int) (n : NS) : Option (NS) :=
  it (fun s : Int × NS => nb_Acts_startPage_48 s.1 s.2) (v1, n)
theorem fL_Acts_startPage_48 {w y : Prop} {g : g_S} {n : NS} {m : YS} (hw : w) {xv1 : Int32} {v1 : Int} (ev1 : xv1 = Int32.ofInt v1) (rv1 : inR v1) (hR : RC w y g n m) : Rf (fun a b => RC w y a b m) (L_Acts_startPage_48 1789 xv1 g) (NL_Acts_startPage_48 v1 n) := by
  subst ev1
  unfold L_Acts_startPage_48 NL_Acts_startPage_48
  refine rf_it (I := (fun a b => RI a.1 b.1 ∧ RC w y a.2 b.2 m)) (fun s t h => ?_) ⟨⟨rfl, rv1⟩, hR⟩
  exact fb_Acts_startPage_48 hw h.1.1 h.1.2 h.2
theorem NL_Acts_startPage_48_eq (v1 : Int) (n : NS) : NL_Acts_startPage_48 v1 n = itc (nb_Acts_startPage_48 v1 n) (fun s => NL_Acts_startPage_48 s.1 s.2) := it_eq2 (fun s : Int × NS => nb_Acts_startPage_48 s.1 s.2) (v1, n)
noncomputable def N_Acts_startPage (n : NS) : Option (NS) :=
  st (nw n 0 0 6 (-1)) fun n3 =>
  st (nw n3 0 0 5 0) fun n7 =>
  st (nw n7 0 0 18 0) fun n11 =>
  (N_Bytes_clear 609 n11).bind fun n16 =>
  st (nw n16 0 0 12 0) fun n20 =>
  st (nw n20 0 0 15 0) fun n24 =>
  st (nw n24 0 0 16 0) fun n28 =>
  (N_Tree_list n28).bind fun n33 =>
  (NL_Acts_startPage_48 0 n33).bind <| fun n36 =>
  some n36
theorem f_Acts_startPage {w y : Prop} {g : g_S} {n : NS} {m : YS} (hw : w) (hR : RC w y g n m) : Rf (fun a b => RC w y a b m) (M_Acts_startPage 1789 g) (N_Acts_startPage n) := by
  unfold M_Acts_startPage N_Acts_startPage
  refine p_L (s := 6) hR (sK0 hR hw) rfl rfl (f_m 1) (show inL (-1) by decide) (fun g5 n3 hR4 => ?_)
  refine p_I (s := 5) hR4 (sK0 hR4 hw) rfl ⟨rfl, rfl, by decide⟩ (e_n 0) (show inR 0 by decide) (fun g9 n7 hR8 => ?_)
  refine p_I (s := 18) hR8 (sK0 hR8 hw) rfl ⟨rfl, rfl, by decide⟩ (e_n 0) (show inR 0 by decide) (fun g13 n11 hR12 => ?_)
  refine c_S hR12 hw (sK0 hR12 hw) (by decide) (show srf 0 0 11 = some 1792 from rfl) ?_
  refine v_c (bS609 ▸ (ce_by hR12 hw (by decide))).1 ?_
  refine rf_bind (f_Bytes_clear hw bS609.symm (by decide) hR12) (fun g18 n16 hR17 => ?_)
  refine p_I (s := 12) hR17 (sK0 hR17 hw) rfl ⟨rfl, rfl, by decide⟩ (e_n 0) (show inR 0 by decide) (fun g22 n20 hR21 => ?_)
  refine p_I (s := 15) hR21 (sK0 hR21 hw) rfl ⟨rfl, rfl, by decide⟩ (e_n 0) (show inR 0 by decide) (fun g26 n24 hR25 => ?_)
  refine p_I (s := 16) hR25 (sK0 hR25 hw) rfl ⟨rfl, rfl, by decide⟩ (e_n 0) (show inR 0 by decide) (fun g30 n28 hR29 => ?_)
  refine c_S hR29 hw (sK0 hR29 hw) (by decide) (show srf 0 0 0 = some 5 from rfl) ?_
  refine v_c (sK10 hR29 hw).1 ?_
  refine rf_bind (f_Tree_list hw hR29) (fun g35 n33 hR34 => ?_)
  refine rf_bind (fL_Acts_startPage_48 hw (e_n 0) (show inR 0 by decide) hR34) (fun a37 n36 h => ?_)
  have hR38 : RC w y a37 n36 m := h
  exact rf_ok (by exact hR38)
noncomputable def nb_Tree_free_2 (v2 : Int) (v3 : Int) (n : NS) : Option ((Int × NS) ⊕ (NS)) :=
  if v3 < v2 then
    ix v3 120 <|
    ix (n 22 0 v3) 120 <|
    st (nw n 7 (n 22 0 v3) 0 (-1)) fun n9 =>
    ck ((n9 10 0 5) - 1) <|
    st (nw n9 10 0 5 ((n9 10 0 5) - 1)) fun n15 =>
    ck (v3 + 1) <|
    some (.inl (v3 + 1, n15))
  else
    some (.inr n)
theorem fb_Tree_free_2 {w y : Prop} {g : g_S} {n : NS} {m : YS} (hw : w) {xv2 : Int32} {v2 : Int} (ev2 : xv2 = Int32.ofInt v2) (rv2 : inR v2) {xv3 : Int32} {v3 : Int} (ev3 : xv3 = Int32.ofInt v3) (rv3 : inR v3) (hR : RC w y g n m) : Rf (RS (fun a b => RI a.1 b.1 ∧ RC w y a.2 b.2 m) (fun a b => RC w y a b m)) (b_Tree_free_2 5 xv2 xv3 g) (nb_Tree_free_2 v2 v3 n) := by
  subst ev2
  subst ev3
  unfold b_Tree_free_2 nb_Tree_free_2
  refine rf_lt rfl rfl rv3 rv2 ?_ ?_
  · refine c_S hR hw (sK10 hR hw) (by decide) (show srf 10 0 0 = some 6 from rfl) ?_
    refine c_S hR hw (sK10 hR hw) (by decide) (show srf 10 0 2 = some 8 from rfl) ?_
    refine s_I (L := 120) hR (sA22 hR hw) rfl (lA22 hR hw) rfl rfl rv3 (fun h4 h5 => ?_)
    refine s_S (p := aNd (_)) (L := 120) hR hw (sA20 hR hw) (by decide) (lA20 hR hw) rfl rfl h5 (fun z1 z2 => srf20 z1 z2) (fun h6 => ?_)
    refine p_I (s := 0) hR (ce_nd hR hw (And.intro h6.1 (Int.le_of_lt h6.2))) rfl ⟨rfl, rfl, by decide⟩ (e_m 1) (show inR (-1) by decide) (fun g11 n9 hR10 => ?_)
    refine c_I (s := 5) hR10 (sK10 hR10 hw) rfl rfl (fun h12 => ?_)
    refine rf_ck (fun h13 => ?_)
    refine p_I (s := 5) hR10 (sK10 hR10 hw) rfl ⟨rfl, rfl, by decide⟩ (e_sub rfl (e_n 1)) h13 (fun g17 n15 hR16 => ?_)
    refine rf_ck (fun h18 => ?_)
    exact rf_ok (by exact ⟨⟨(e_add rfl (e_n 1)), h18⟩, hR16⟩)
  · exact rf_ok (by exact hR)
noncomputable def NL_Tree_free_2 (v2 : Int) (v3 : Int) (n : NS) : Option (NS) :=
  it (fun s : Int × NS => nb_Tree_free_2 v2 s.1 s.2) (v3, n)
theorem fL_Tree_free_2 {w y : Prop} {g : g_S} {n : NS} {m : YS} (hw : w) {xv2 : Int32} {v2 : Int} (ev2 : xv2 = Int32.ofInt v2) (rv2 : inR v2) {xv3 : Int32} {v3 : Int} (ev3 : xv3 = Int32.ofInt v3) (rv3 : inR v3) (hR : RC w y g n m) : Rf (fun a b => RC w y a b m) (L_Tree_free_2 5 xv2 xv3 g) (NL_Tree_free_2 v2 v3 n) := by
  subst ev2
  subst ev3
  unfold L_Tree_free_2 NL_Tree_free_2
  refine rf_it (I := (fun a b => RI a.1 b.1 ∧ RC w y a.2 b.2 m)) (fun s t h => ?_) ⟨⟨rfl, rv3⟩, hR⟩
  exact fb_Tree_free_2 hw rfl rv2 h.1.1 h.1.2 h.2
theorem NL_Tree_free_2_eq (v2 : Int) (v3 : Int) (n : NS) : NL_Tree_free_2 v2 v3 n = itc (nb_Tree_free_2 v2 v3 n) (fun s => NL_Tree_free_2 v2 s.1 s.2) := it_eq2 (fun s : Int × NS => nb_Tree_free_2 v2 s.1 s.2) (v3, n)
noncomputable def N_Tree_free (v1 : Int) (v2 : Int) (n : NS) : Option (NS) :=
  (NL_Tree_free_2 v2 v1 n).bind <| fun n1 =>
  ck ((n1 10 0 6) + 1) <|
  st (nw n1 10 0 6 ((n1 10 0 6) + 1)) fun n7 =>
  some n7
theorem f_Tree_free {w y : Prop} {g : g_S} {n : NS} {m : YS} (hw : w) {xv1 : Int32} {v1 : Int} (ev1 : xv1 = Int32.ofInt v1) (rv1 : inR v1) {xv2 : Int32} {v2 : Int} (ev2 : xv2 = Int32.ofInt v2) (rv2 : inR v2) (hR : RC w y g n m) : Rf (fun a b => RC w y a b m) (M_Tree_free 5 xv1 xv2 g) (N_Tree_free v1 v2 n) := by
  subst ev1
  subst ev2
  unfold M_Tree_free N_Tree_free
  refine rf_bind (fL_Tree_free_2 hw rfl rv2 rfl rv1 hR) (fun a2 n1 h => ?_)
  have hR3 : RC w y a2 n1 m := h
  refine c_I (s := 6) hR3 (sK10 hR3 hw) rfl rfl (fun h4 => ?_)
  refine rf_ck (fun h5 => ?_)
  refine p_I (s := 6) hR3 (sK10 hR3 hw) rfl ⟨rfl, rfl, by decide⟩ (e_add rfl (e_n 1)) h5 (fun g9 n7 hR8 => ?_)
  exact rf_ok (by exact hR8)
noncomputable def N_Tree_setText (v1 : Int) (v2 : Int) (v3 : Int) (v4 : Int) (n : NS) : Option (NS) :=
  ix v1 120 <|
  (N_Node_isEmptyTag v1 n).bind fun z5 =>
  if z5 = 0 then
    if (n 7 v1 7) < 20 then
      (N_Tree_list n).bind fun n12 =>
      st (nw n12 7 v1 3 (-1)) fun n16 =>
      st (nw n16 7 v1 4 (-1)) fun n20 =>
      st (nw n20 7 v1 6 0) fun n24 =>
      ck ((n24 7 v1 8) + 1) <|
      (N_Tree_free ((n24 7 v1 8) + 1) (n24 7 v1 9) n24).bind fun n31 =>
      if v3 < v4 then
        (N_Tree_hasRoom v1 n31).bind fun z36 =>
        if z36 = 0 then
          some n31
        else
          (N_Tree_grow v1 17 0 n31).bind <| u2 fun z42 n45 =>
          ix z42 120 <|
          (N_Bytes_addAll (5 * z42) v2 v3 v4 n45).bind fun n53 =>
          some n53
      else
        some n31
    else
      some n
  else
    some n
theorem f_Tree_setText {w y : Prop} {g : g_S} {n : NS} {m : YS} (hw : w) {xv1 : Int32} {v1 : Int} (ev1 : xv1 = Int32.ofInt v1) (rv1 : inR v1) {xv2 : Nat} {v2 : Int} (ev2 : xv2 = Int.toNat v2) (rv2 : 0 ≤ v2 ∧ lc (Int.toNat v2) = (99, v2)) {xv3 : Int32} {v3 : Int} (ev3 : xv3 = Int32.ofInt v3) (rv3 : inR v3) {xv4 : Int32} {v4 : Int} (ev4 : xv4 = Int32.ofInt v4) (rv4 : inR v4) (hR : RC w y g n m) : Rf (fun a b => RC w y a b m) (M_Tree_setText 5 xv1 xv2 xv3 xv4 g) (N_Tree_setText v1 v2 v3 v4 n) := by
  subst ev1
  subst ev2
  subst ev3
  subst ev4
  unfold M_Tree_setText N_Tree_setText
  refine c_S hR hw (sK10 hR hw) (by decide) (show srf 10 0 0 = some 6 from rfl) ?_
  refine s_S (p := aNd (_)) (L := 120) hR hw (sA20 hR hw) (by decide) (lA20 hR hw) rfl rfl rv1 (fun z1 z2 => srf20 z1 z2) (fun h2 => ?_)
  refine v_c (ce_nd hR hw (And.intro h2.1 (Int.le_of_lt h2.2))).1 ?_
  refine rf_bind (f_Node_isEmptyTag hw rfl (And.intro h2.1 (Int.le_of_lt h2.2)) hR) (fun a7 z5 h => ?_)
  obtain ⟨rfl, r6⟩ := h
  refine rf_eq rfl (e_n 0) (inZ.r r6) (show inR 0 by decide) ?_ ?_
  · refine c_I (s := 7) hR (ce_nd hR hw (And.intro h2.1 (Int.le_of_lt h2.2))) rfl rfl (fun h9 => ?_)
    refine rf_lt rfl (e_n 20) h9 (show inR 20 by decide) ?_ ?_
    · refine v_c (sK10 hR hw).1 ?_
      refine rf_bind (f_Tree_list hw hR) (fun g14 n12 hR13 => ?_)
      refine p_I (s := 3) hR13 (ce_nd hR13 hw (And.intro h2.1 (Int.le_of_lt h2.2))) rfl ⟨rfl, rfl, by decide⟩ (e_m 1) (show inR (-1) by decide) (fun g18 n16 hR17 => ?_)
      refine p_I (s := 4) hR17 (ce_nd hR17 hw (And.intro h2.1 (Int.le_of_lt h2.2))) rfl ⟨rfl, rfl, by decide⟩ (e_m 1) (show inR (-1) by decide) (fun g22 n20 hR21 => ?_)
      refine p_I (s := 6) hR21 (ce_nd hR21 hw (And.intro h2.1 (Int.le_of_lt h2.2))) rfl ⟨rfl, rfl, by decide⟩ (e_n 0) (show inR 0 by decide) (fun g26 n24 hR25 => ?_)
      refine c_I (s := 8) hR25 (ce_nd hR25 hw (And.intro h2.1 (Int.le_of_lt h2.2))) rfl rfl (fun h27 => ?_)
      refine rf_ck (fun h28 => ?_)
      refine c_I (s := 9) hR25 (ce_nd hR25 hw (And.intro h2.1 (Int.le_of_lt h2.2))) rfl rfl (fun h29 => ?_)
      refine v_c (sK10 hR25 hw).1 ?_
      refine rf_bind (f_Tree_free hw (e_add rfl (e_n 1)) h28 rfl h29 hR25) (fun g33 n31 hR32 => ?_)
      refine rf_lt rfl rfl rv3 rv4 ?_ ?_
      · refine v_c (sK10 hR32 hw).1 ?_
        refine rf_bind (f_Tree_hasRoom hw rfl rv1 hR32) (fun a38 z36 h => ?_)
        obtain ⟨rfl, r37⟩ := h
        refine rf_eq rfl (e_n 0) (inZ.r r37) (show inR 0 by decide) ?_ ?_
        · exact rf_ok (by exact hR32)
        · refine v_c2 (sK10 hR32 hw).1 ?_
          refine rf_c2 (f_Tree_grow hw rfl rv1 (e_n 17) (show inR 17 by decide) (f_n 0) (show inL 0 by decide) hR32) (fun a44 g47 b h => ?_)
          obtain ⟨z42, n45⟩ := b
          refine rf_v2 ?_
          obtain ⟨rfl, r43⟩ := (show RI a44 z42 from h.1)
          have hR46 : RC w y g47 n45 m := h.2
          refine c_S hR46 hw (sK10 hR46 hw) (by decide) (show srf 10 0 0 = some 6 from rfl) ?_
          refine s_S (p := aNd (_)) (L := 120) hR46 hw (sA20 hR46 hw) (by decide) (lA20 hR46 hw) rfl rfl r43 (fun z1 z2 => srf20 z1 z2) (fun h49 => ?_)
          refine c_S (p := _) hR46 hw (ce_nd hR46 hw (And.intro h49.1 (Int.le_of_lt h49.2))) (Nat.lt_trans (nd_lt (And.intro h49.1 (Int.le_of_lt h49.2))).1 (by decide)) rfl ?_
          refine v_c (ce_by hR46 hw (by5 (And.intro h49.1 (Int.le_of_lt h49.2)))).1 ?_
          refine rf_bind (f_Bytes_addAll hw rfl (by5 (And.intro h49.1 (Int.le_of_lt h49.2))) rfl rv2 rfl rv3 rfl rv4 hR46) (fun g55 n53 hR54 => ?_)
          exact rf_ok (by exact hR54)
      · exact rf_ok (by exact hR32)
    · exact rf_ok (by exact hR)
  · exact rf_ok (by exact hR)
noncomputable def nk_Acts_finishGet_56 (v1 : Int) (v2 : Int) (n : NS) : Option (NS) :=
  ty n v2 102 <|
  nn (n 99 v2 6) <|
  ty n v2 102 <|
  nn (n 99 v2 6) <|
  ty n (n 99 v2 6) 1 <|
  ck (n 93 0 (n 99 v2 6)) <|
  (N_Tree_setText v1 (n 99 v2 6) 0 (min (n 93 0 (n 99 v2 6)) 200) n).bind fun n12 =>
  some n12
theorem fk_Acts_finishGet_56 {w y : Prop} {g : g_S} {n : NS} {m : YS} (hw : w) {xv1 : Int32} {v1 : Int} (ev1 : xv1 = Int32.ofInt v1) (rv1 : inR v1) {xv2 : Nat} {v2 : Int} (ev2 : xv2 = Int.toNat v2) (rv2 : 0 ≤ v2 ∧ lc (Int.toNat v2) = (99, v2)) (hR : RC w y g n m) : Rf (fun a b => RC w y a b m) (k_Acts_finishGet_56 1789 xv1 xv2 g) (nk_Acts_finishGet_56 v1 v2 n) := by
  subst ev1
  subst ev2
  unfold k_Acts_finishGet_56 nk_Acts_finishGet_56
  refine c_S hR hw (sK0 hR hw) (by decide) (show srf 0 0 0 = some 5 from rfl) ?_
  refine rf_ty (t := 102) rv2.1 hR (by decide) (fun h3 h4 => ?_)
  refine c_D (s := 6) hR (ce_dy hR rv2 h4 (by decide)) rfl rfl rfl (fun h2 => ?_)
  refine rf_ty (t := 102) rv2.1 hR (by decide) (fun h6 h7 => ?_)
  refine c_D (s := 6) hR (ce_dy hR rv2 h7 (by decide)) rfl rfl rfl (fun h5 => ?_)
  refine d_N (t := 1) hR h5 (by decide) (fun h8 h9 => ?_)
  refine v_c (sK10 hR hw).1 ?_
  refine rf_bind (f_Tree_setText hw rfl rv1 rfl h2 (e_n 0) (show inR 0 by decide) (e_mn rfl (e_n 200) h8 (show inR 200 by decide)) (min_r h8 (show inR 200 by decide)) hR) (fun g14 n12 hR13 => ?_)
  exact rf_ok (by exact hR13)
noncomputable def N_Acts_finishGet (n : NS) : Option (NS) :=
  st (nw n 0 0 17 (-1)) fun n3 =>
  (N_Net_fetch 1584 n3).bind <| u2 fun z10 n13 =>
  ty n13 z10 102 <|
  if (n13 99 z10 5) = 0 then
    ty n13 1586 101 <|
    ty n13 1582 101 <|
    if (n13 99 1586 1) = (n13 99 1582 1) then
      nk_Acts_finishGet_56 (n 0 0 17) z10 n13
    else
      ck ((n13 0 0 10) + 1) <|
      st (nw n13 0 0 10 ((n13 0 0 10) + 1)) fun n34 =>
      some n34
  else
    nk_Acts_finishGet_56 (n 0 0 17) z10 n13
theorem f_Acts_finishGet {w y : Prop} {g : g_S} {n : NS} {m : YS} (hw : w) (hR : RC w y g n m) : Rf (fun a b => RC w y a b m) (M_Acts_finishGet 1789 g) (N_Acts_finishGet n) := by
  unfold M_Acts_finishGet N_Acts_finishGet
  refine c_I (s := 17) hR (sK0 hR hw) rfl rfl (fun h1 => ?_)
  refine p_I (s := 17) hR (sK0 hR hw) rfl ⟨rfl, rfl, by decide⟩ (e_m 1) (show inR (-1) by decide) (fun g5 n3 hR4 => ?_)
  refine c_S hR4 hw (sK0 hR4 hw) (by decide) (show srf 0 0 1 = some 1569 from rfl) ?_
  refine c_S hR4 hw (sK0 hR4 hw) (by decide) (show srf 0 0 1 = some 1569 from rfl) ?_
  refine c_S hR4 hw (sK6 hR4 hw) (by decide) (show srf 6 0 14 = some 1584 from rfl) ?_
  refine v_c2 (sK6 hR4 hw).1 ?_
  refine rf_c2 (f_Net_fetch hw rfl dS1584 hR4) (fun a12 g15 b h => ?_)
  obtain ⟨z10, n13⟩ := b
  refine rf_v2 ?_
  obtain ⟨rfl, r11⟩ := (show RD a12 z10 from h.1)
  have hR14 : RC w y g15 n13 m := h.2
  refine rf_ty (t := 102) r11.1 hR14 (by decide) (fun h17 h18 => ?_)
  refine c_Z (s := 5) hR14 (ce_dy hR14 r11 h18 (by decide)) rfl rfl rfl (fun h16 => ?_)
  refine rf_eq rfl (e_n 0) (inZ.r h16) (show inR 0 by decide) ?_ ?_
  · refine c_S hR14 hw (sK0 hR14 hw) (by decide) (show srf 0 0 1 = some 1569 from rfl) ?_
    refine c_S hR14 hw (sK6 hR14 hw) (by decide) (show srf 6 0 15 = some 1586 from rfl) ?_
    refine rf_ty (t := 101) dS1586.1 hR14 (by decide) (fun h23 h24 => ?_)
    refine c_L (s := 1) hR14 (ce_dy hR14 dS1586 h24 (by decide)) rfl rfl (fun h22 => ?_)
    refine c_S hR14 hw (sK0 hR14 hw) (by decide) (show srf 0 0 1 = some 1569 from rfl) ?_
    refine c_S hR14 hw (sK6 hR14 hw) (by decide) (show srf 6 0 13 = some 1582 from rfl) ?_
    refine rf_ty (t := 101) dS1582.1 hR14 (by decide) (fun h28 h29 => ?_)
    refine c_L (s := 1) hR14 (ce_dy hR14 dS1582 h29 (by decide)) rfl rfl (fun h27 => ?_)
    refine rf_leq rfl rfl h22 h27 ?_ ?_
    · exact fk_Acts_finishGet_56 hw rfl h1 rfl r11 hR14
    · refine c_I (s := 10) hR14 (sK0 hR14 hw) rfl rfl (fun h31 => ?_)
      refine rf_ck (fun h32 => ?_)
      refine p_I (s := 10) hR14 (sK0 hR14 hw) rfl ⟨rfl, rfl, by decide⟩ (e_add rfl (e_n 1)) h32 (fun g36 n34 hR35 => ?_)
      exact rf_ok (by exact hR35)
  · exact fk_Acts_finishGet_56 hw rfl h1 rfl r11 hR14
noncomputable def nb_Acts_blankAt_2 (v0 : Int) (v2 : Int) (v3 : Int) (n : NS) : Option ((Int) ⊕ (Int)) :=
  if v3 < v2 then
    dx n v0 1 v3 <|
    if (n 99 v0 v3) = 32 then
      some (.inr v3)
    else
      ck (v3 + 1) <|
      some (.inl (v3 + 1))
  else
    some (.inr v3)
theorem fb_Acts_blankAt_2 {w y : Prop} {g : g_S} {n : NS} {m : YS} {xv0 : Nat} {v0 : Int} (ev0 : xv0 = Int.toNat v0) (rv0 : 0 ≤ v0 ∧ lc (Int.toNat v0) = (99, v0)) {xv2 : Int32} {v2 : Int} (ev2 : xv2 = Int32.ofInt v2) (rv2 : inR v2) {xv3 : Int32} {v3 : Int} (ev3 : xv3 = Int32.ofInt v3) (rv3 : inR v3) (hR : RC w y g n m) : Rf (RS (fun a b => RI a b) (fun a b => RI a b)) (b_Acts_blankAt_2 xv0 xv2 xv3 g) (nb_Acts_blankAt_2 v0 v2 v3 n) := by
  subst ev0
  subst ev2
  subst ev3
  unfold b_Acts_blankAt_2 nb_Acts_blankAt_2
  refine rf_lt rfl rfl rv3 rv2 ?_ ?_
  · refine d_B hR rv0 rfl rv3 (fun h2 h3 => ?_)
    refine rf_eq rfl (e_n 32) (inB.r h3) (show inR 32 by decide) ?_ ?_
    · exact rf_ok (by exact ⟨rfl, rv3⟩)
    · refine rf_ck (fun h5 => ?_)
      exact rf_ok (by exact ⟨(e_add rfl (e_n 1)), h5⟩)
  · exact rf_ok (by exact ⟨rfl, rv3⟩)
noncomputable def NL_Acts_blankAt_2 (v0 : Int) (v2 : Int) (v3 : Int) (n : NS) : Option (Int) :=
  it (fun s : Int => nb_Acts_blankAt_2 v0 v2 s n) (v3)
theorem fL_Acts_blankAt_2 {w y : Prop} {g : g_S} {n : NS} {m : YS} {xv0 : Nat} {v0 : Int} (ev0 : xv0 = Int.toNat v0) (rv0 : 0 ≤ v0 ∧ lc (Int.toNat v0) = (99, v0)) {xv2 : Int32} {v2 : Int} (ev2 : xv2 = Int32.ofInt v2) (rv2 : inR v2) {xv3 : Int32} {v3 : Int} (ev3 : xv3 = Int32.ofInt v3) (rv3 : inR v3) (hR : RC w y g n m) : Rf (fun a b => RI a b) (L_Acts_blankAt_2 xv0 xv2 xv3 g) (NL_Acts_blankAt_2 v0 v2 v3 n) := by
  subst ev0
  subst ev2
  subst ev3
  unfold L_Acts_blankAt_2 NL_Acts_blankAt_2
  refine rf_it (I := (fun a b => RI a b)) (fun s t h => ?_) ⟨rfl, rv3⟩
  exact fb_Acts_blankAt_2 rfl rv0 rfl rv2 h.1 h.2 hR
theorem NL_Acts_blankAt_2_eq (v0 : Int) (v2 : Int) (v3 : Int) (n : NS) : NL_Acts_blankAt_2 v0 v2 v3 n = itc (nb_Acts_blankAt_2 v0 v2 v3 n) (fun s => NL_Acts_blankAt_2 v0 v2 s n) := it_eq2 (fun s : Int => nb_Acts_blankAt_2 v0 v2 s n) (v3)
noncomputable def N_Acts_blankAt (v0 : Int) (v1 : Int) (v2 : Int) (n : NS) : Option (Int) :=
  (NL_Acts_blankAt_2 v0 v2 v1 n).bind <| fun z1 =>
  some z1
theorem f_Acts_blankAt {w y : Prop} {g : g_S} {n : NS} {m : YS} {xv0 : Nat} {v0 : Int} (ev0 : xv0 = Int.toNat v0) (rv0 : 0 ≤ v0 ∧ lc (Int.toNat v0) = (99, v0)) {xv1 : Int32} {v1 : Int} (ev1 : xv1 = Int32.ofInt v1) (rv1 : inR v1) {xv2 : Int32} {v2 : Int} (ev2 : xv2 = Int32.ofInt v2) (rv2 : inR v2) (hR : RC w y g n m) : Rf (fun a b => RI a b) (M_Acts_blankAt xv0 xv1 xv2 g) (N_Acts_blankAt v0 v1 v2 n) := by
  subst ev0
  subst ev1
  subst ev2
  unfold M_Acts_blankAt N_Acts_blankAt
  refine rf_bind (fL_Acts_blankAt_2 rfl rv0 rfl rv2 rfl rv1 hR) (fun a2 z1 h => ?_)
  obtain ⟨rfl, r3⟩ := (show RI a2 z1 from h)
  exact rf_ok (by exact ⟨rfl, r3⟩)
noncomputable def nk_Bytes_wordPlace_83 (v0 : Nat) (v1 : Int) (v2 : Int) (v3 : Int) (v4 : Int) (v7 : Int) (n : NS) : Option ((Int × Int × Int × Int) ⊕ ((Int) ⊕ (Int × Int × Int))) :=
  ck (v4 + 1) <|
  ck (v7 + 1) <|
  some (.inl (v4 + 1, 1, v2, v7 + 1))
theorem fk_Bytes_wordPlace_83 {w y : Prop} {g : g_S} {n : NS} {m : YS} {v0 : Nat} {xv1 : Nat} {v1 : Int} (ev1 : xv1 = Int.toNat v1) (rv1 : 0 ≤ v1 ∧ lc (Int.toNat v1) = (99, v1)) {xv2 : Int32} {v2 : Int} (ev2 : xv2 = Int32.ofInt v2) (rv2 : inR v2) {xv3 : Int32} {v3 : Int} (ev3 : xv3 = Int32.ofInt v3) (rv3 : inR v3) {xv4 : Int32} {v4 : Int} (ev4 : xv4 = Int32.ofInt v4) (rv4 : inR v4) {xv7 : Int32} {v7 : Int} (ev7 : xv7 = Int32.ofInt v7) (rv7 : inR v7) (hR : RC w y g n m) : Rf (RS (fun a b => RI a.1 b.1 ∧ RI a.2.1 b.2.1 ∧ RI a.2.2.1 b.2.2.1 ∧ RI a.2.2.2 b.2.2.2) (RS (fun a b => RI a b) (fun a b => RI a.1 b.1 ∧ RI a.2.1 b.2.1 ∧ RI a.2.2 b.2.2))) (k_Bytes_wordPlace_83 v0 xv1 xv2 xv3 xv4 xv7 g) (nk_Bytes_wordPlace_83 v0 v1 v2 v3 v4 v7 n) := by
  subst ev1
  subst ev2
  subst ev3
  subst ev4
  subst ev7
  unfold k_Bytes_wordPlace_83 nk_Bytes_wordPlace_83
  refine rf_ck (fun h1 => ?_)
  refine rf_ck (fun h2 => ?_)
  exact rf_ok (by exact ⟨⟨(e_add rfl (e_n 1)), h1⟩, ⟨(e_n 1), (show inR 1 by decide)⟩, ⟨rfl, rv2⟩, ⟨(e_add rfl (e_n 1)), h2⟩⟩)
noncomputable def nk_Bytes_wordPlace_61 (v0 : Nat) (v1 : Int) (v2 : Int) (v3 : Int) (v4 : Int) (v6 : Int) (v7 : Int) (w0 : Int) (n : NS) : Option ((Int × Int × Int × Int) ⊕ ((Int) ⊕ (Int × Int × Int))) :=
  ck (v6 + 1) <|
  ck (v7 + 1) <|
  some (.inl (v4, w0, v6 + 1, v7 + 1))
theorem fk_Bytes_wordPlace_61 {w y : Prop} {g : g_S} {n : NS} {m : YS} {v0 : Nat} {xv1 : Nat} {v1 : Int} (ev1 : xv1 = Int.toNat v1) (rv1 : 0 ≤ v1 ∧ lc (Int.toNat v1) = (99, v1)) {xv2 : Int32} {v2 : Int} (ev2 : xv2 = Int32.ofInt v2) (rv2 : inR v2) {xv3 : Int32} {v3 : Int} (ev3 : xv3 = Int32.ofInt v3) (rv3 : inR v3) {xv4 : Int32} {v4 : Int} (ev4 : xv4 = Int32.ofInt v4) (rv4 : inR v4) {xv6 : Int32} {v6 : Int} (ev6 : xv6 = Int32.ofInt v6) (rv6 : inR v6) {xv7 : Int32} {v7 : Int} (ev7 : xv7 = Int32.ofInt v7) (rv7 : inR v7) {xw0 : Int32} {w0 : Int} (ew0 : xw0 = Int32.ofInt w0) (rw0 : inR w0) (hR : RC w y g n m) : Rf (RS (fun a b => RI a.1 b.1 ∧ RI a.2.1 b.2.1 ∧ RI a.2.2.1 b.2.2.1 ∧ RI a.2.2.2 b.2.2.2) (RS (fun a b => RI a b) (fun a b => RI a.1 b.1 ∧ RI a.2.1 b.2.1 ∧ RI a.2.2 b.2.2))) (k_Bytes_wordPlace_61 v0 xv1 xv2 xv3 xv4 xv6 xv7 xw0 g) (nk_Bytes_wordPlace_61 v0 v1 v2 v3 v4 v6 v7 w0 n) := by
  subst ev1
  subst ev2
  subst ev3
  subst ev4
  subst ev6
  subst ev7
  subst ew0
  unfold k_Bytes_wordPlace_61 nk_Bytes_wordPlace_61
  refine rf_ck (fun h1 => ?_)
  refine rf_ck (fun h2 => ?_)
  exact rf_ok (by exact ⟨⟨rfl, rv4⟩, ⟨rfl, rw0⟩, ⟨(e_add rfl (e_n 1)), h1⟩, ⟨(e_add rfl (e_n 1)), h2⟩⟩)
noncomputable def nk_Bytes_wordPlace_60 (v0 : Nat) (v1 : Int) (v2 : Int) (v3 : Int) (v4 : Int) (v6 : Int) (v7 : Int) (n : NS) : Option ((Int × Int × Int × Int) ⊕ ((Int) ⊕ (Int × Int × Int))) :=
  nk_Bytes_wordPlace_61 v0 v1 v2 v3 v4 v6 v7 0 n
theorem fk_Bytes_wordPlace_60 {w y : Prop} {g : g_S} {n : NS} {m : YS} {v0 : Nat} {xv1 : Nat} {v1 : Int} (ev1 : xv1 = Int.toNat v1) (rv1 : 0 ≤ v1 ∧ lc (Int.toNat v1) = (99, v1)) {xv2 : Int32} {v2 : Int} (ev2 : xv2 = Int32.ofInt v2) (rv2 : inR v2) {xv3 : Int32} {v3 : Int} (ev3 : xv3 = Int32.ofInt v3) (rv3 : inR v3) {xv4 : Int32} {v4 : Int} (ev4 : xv4 = Int32.ofInt v4) (rv4 : inR v4) {xv6 : Int32} {v6 : Int} (ev6 : xv6 = Int32.ofInt v6) (rv6 : inR v6) {xv7 : Int32} {v7 : Int} (ev7 : xv7 = Int32.ofInt v7) (rv7 : inR v7) (hR : RC w y g n m) : Rf (RS (fun a b => RI a.1 b.1 ∧ RI a.2.1 b.2.1 ∧ RI a.2.2.1 b.2.2.1 ∧ RI a.2.2.2 b.2.2.2) (RS (fun a b => RI a b) (fun a b => RI a.1 b.1 ∧ RI a.2.1 b.2.1 ∧ RI a.2.2 b.2.2))) (k_Bytes_wordPlace_60 v0 xv1 xv2 xv3 xv4 xv6 xv7 g) (nk_Bytes_wordPlace_60 v0 v1 v2 v3 v4 v6 v7 n) := by
  subst ev1
  subst ev2
  subst ev3
  subst ev4
  subst ev6
  subst ev7
  unfold k_Bytes_wordPlace_60 nk_Bytes_wordPlace_60
  exact fk_Bytes_wordPlace_61 rfl rv1 rfl rv2 rfl rv3 rfl rv4 rfl rv6 rfl rv7 (e_n 0) (show inR 0 by decide) hR
noncomputable def nb_Bytes_wordPlace_12 (v0 : Nat) (v1 : Int) (v2 : Int) (v3 : Int) (v4 : Int) (v5 : Int) (v6 : Int) (v7 : Int) (n : NS) : Option ((Int × Int × Int × Int) ⊕ ((Int) ⊕ (Int × Int × Int))) :=
  (sN v0).bind fun z2 =>
  if v7 < z2 then
    (sC v0 v7).bind fun z6 =>
    if z6 = 32 then
      if v5 = 0 then
        nk_Bytes_wordPlace_83 v0 v1 v2 v3 v4 v7 n
      else
        if v6 = v3 then
          some (.inr (.inl v4))
        else
          nk_Bytes_wordPlace_83 v0 v1 v2 v3 v4 v7 n
    else
      if v5 = 0 then
        nk_Bytes_wordPlace_60 v0 v1 v2 v3 v4 v6 v7 n
      else
        if v6 < v3 then
          dx n v1 1 v6 <|
          if (n 99 v1 v6) = z6 then
            nk_Bytes_wordPlace_61 v0 v1 v2 v3 v4 v6 v7 1 n
          else
            nk_Bytes_wordPlace_60 v0 v1 v2 v3 v4 v6 v7 n
        else
          nk_Bytes_wordPlace_60 v0 v1 v2 v3 v4 v6 v7 n
  else
    some (.inr (.inr (v4, v5, v6)))
theorem fb_Bytes_wordPlace_12 {w y : Prop} {g : g_S} {n : NS} {m : YS} {v0 : Nat} {xv1 : Nat} {v1 : Int} (ev1 : xv1 = Int.toNat v1) (rv1 : 0 ≤ v1 ∧ lc (Int.toNat v1) = (99, v1)) {xv2 : Int32} {v2 : Int} (ev2 : xv2 = Int32.ofInt v2) (rv2 : inR v2) {xv3 : Int32} {v3 : Int} (ev3 : xv3 = Int32.ofInt v3) (rv3 : inR v3) {xv4 : Int32} {v4 : Int} (ev4 : xv4 = Int32.ofInt v4) (rv4 : inR v4) {xv5 : Int32} {v5 : Int} (ev5 : xv5 = Int32.ofInt v5) (rv5 : inR v5) {xv6 : Int32} {v6 : Int} (ev6 : xv6 = Int32.ofInt v6) (rv6 : inR v6) {xv7 : Int32} {v7 : Int} (ev7 : xv7 = Int32.ofInt v7) (rv7 : inR v7) (hR : RC w y g n m) : Rf (RS (fun a b => RI a.1 b.1 ∧ RI a.2.1 b.2.1 ∧ RI a.2.2.1 b.2.2.1 ∧ RI a.2.2.2 b.2.2.2) (RS (fun a b => RI a b) (fun a b => RI a.1 b.1 ∧ RI a.2.1 b.2.1 ∧ RI a.2.2 b.2.2))) (b_Bytes_wordPlace_12 v0 xv1 xv2 xv3 xv4 xv5 xv6 xv7 g) (nb_Bytes_wordPlace_12 v0 v1 v2 v3 v4 v5 v6 v7 n) := by
  subst ev1
  subst ev2
  subst ev3
  subst ev4
  subst ev5
  subst ev6
  subst ev7
  unfold b_Bytes_wordPlace_12 nb_Bytes_wordPlace_12
  refine t_N (fun z2 r3 => ?_)
  refine rf_lt rfl rfl rv7 r3 ?_ ?_
  · refine t_C rfl rv7 (fun z6 r7 _ _ => ?_)
    refine rf_eq rfl (e_n 32) r7 (show inR 32 by decide) ?_ ?_
    · refine rf_eq rfl (e_n 0) rv5 (show inR 0 by decide) ?_ ?_
      · exact fk_Bytes_wordPlace_83 rfl rv1 rfl rv2 rfl rv3 rfl rv4 rfl rv7 hR
      · refine rf_eq rfl rfl rv6 rv3 ?_ ?_
        · exact rf_ok (by exact ⟨rfl, rv4⟩)
        · exact fk_Bytes_wordPlace_83 rfl rv1 rfl rv2 rfl rv3 rfl rv4 rfl rv7 hR
    · refine rf_eq rfl (e_n 0) rv5 (show inR 0 by decide) ?_ ?_
      · exact fk_Bytes_wordPlace_60 rfl rv1 rfl rv2 rfl rv3 rfl rv4 rfl rv6 rfl rv7 hR
      · refine rf_lt rfl rfl rv6 rv3 ?_ ?_
        · refine d_B hR rv1 rfl rv6 (fun h13 h14 => ?_)
          refine rf_eq rfl rfl (inB.r h14) r7 ?_ ?_
          · exact fk_Bytes_wordPlace_61 rfl rv1 rfl rv2 rfl rv3 rfl rv4 rfl rv6 rfl rv7 (e_n 1) (show inR 1 by decide) hR
          · exact fk_Bytes_wordPlace_60 rfl rv1 rfl rv2 rfl rv3 rfl rv4 rfl rv6 rfl rv7 hR
        · exact fk_Bytes_wordPlace_60 rfl rv1 rfl rv2 rfl rv3 rfl rv4 rfl rv6 rfl rv7 hR
  · exact rf_ok (by exact ⟨⟨rfl, rv4⟩, ⟨rfl, rv5⟩, ⟨rfl, rv6⟩⟩)
noncomputable def NL_Bytes_wordPlace_12 (v0 : Nat) (v1 : Int) (v2 : Int) (v3 : Int) (v4 : Int) (v5 : Int) (v6 : Int) (v7 : Int) (n : NS) : Option ((Int) ⊕ (Int × Int × Int)) :=
  it (fun s : Int × Int × Int × Int => nb_Bytes_wordPlace_12 v0 v1 v2 v3 s.1 s.2.1 s.2.2.1 s.2.2.2 n) (v4, v5, v6, v7)
theorem fL_Bytes_wordPlace_12 {w y : Prop} {g : g_S} {n : NS} {m : YS} {v0 : Nat} {xv1 : Nat} {v1 : Int} (ev1 : xv1 = Int.toNat v1) (rv1 : 0 ≤ v1 ∧ lc (Int.toNat v1) = (99, v1)) {xv2 : Int32} {v2 : Int} (ev2 : xv2 = Int32.ofInt v2) (rv2 : inR v2) {xv3 : Int32} {v3 : Int} (ev3 : xv3 = Int32.ofInt v3) (rv3 : inR v3) {xv4 : Int32} {v4 : Int} (ev4 : xv4 = Int32.ofInt v4) (rv4 : inR v4) {xv5 : Int32} {v5 : Int} (ev5 : xv5 = Int32.ofInt v5) (rv5 : inR v5) {xv6 : Int32} {v6 : Int} (ev6 : xv6 = Int32.ofInt v6) (rv6 : inR v6) {xv7 : Int32} {v7 : Int} (ev7 : xv7 = Int32.ofInt v7) (rv7 : inR v7) (hR : RC w y g n m) : Rf (RS (fun a b => RI a b) (fun a b => RI a.1 b.1 ∧ RI a.2.1 b.2.1 ∧ RI a.2.2 b.2.2)) (L_Bytes_wordPlace_12 v0 xv1 xv2 xv3 xv4 xv5 xv6 xv7 g) (NL_Bytes_wordPlace_12 v0 v1 v2 v3 v4 v5 v6 v7 n) := by
  subst ev1
  subst ev2
  subst ev3
  subst ev4
  subst ev5
  subst ev6
  subst ev7
  unfold L_Bytes_wordPlace_12 NL_Bytes_wordPlace_12
  refine rf_it (I := (fun a b => RI a.1 b.1 ∧ RI a.2.1 b.2.1 ∧ RI a.2.2.1 b.2.2.1 ∧ RI a.2.2.2 b.2.2.2)) (fun s t h => ?_) ⟨⟨rfl, rv4⟩, ⟨rfl, rv5⟩, ⟨rfl, rv6⟩, ⟨rfl, rv7⟩⟩
  exact fb_Bytes_wordPlace_12 rfl rv1 rfl rv2 rfl rv3 h.1.1 h.1.2 h.2.1.1 h.2.1.2 h.2.2.1.1 h.2.2.1.2 h.2.2.2.1 h.2.2.2.2 hR
theorem NL_Bytes_wordPlace_12_eq (v0 : Nat) (v1 : Int) (v2 : Int) (v3 : Int) (v4 : Int) (v5 : Int) (v6 : Int) (v7 : Int) (n : NS) : NL_Bytes_wordPlace_12 v0 v1 v2 v3 v4 v5 v6 v7 n = itc (nb_Bytes_wordPlace_12 v0 v1 v2 v3 v4 v5 v6 v7 n) (fun s => NL_Bytes_wordPlace_12 v0 v1 v2 v3 s.1 s.2.1 s.2.2.1 s.2.2.2 n) := it_eq2 (fun s : Int × Int × Int × Int => nb_Bytes_wordPlace_12 v0 v1 v2 v3 s.1 s.2.1 s.2.2.1 s.2.2.2 n) (v4, v5, v6, v7)
noncomputable def N_Bytes_wordPlace (v0 : Nat) (v1 : Int) (v2 : Int) (v3 : Int) (n : NS) : Option (Int) :=
  (NL_Bytes_wordPlace_12 v0 v1 v2 v3 0 1 v2 0 n).bind <|
    us (fun z1 =>
    some z1)
    (u3 fun z5 z6 z7 =>
    if z6 = 0 then
      some (-1)
    else
      if z7 = v3 then
        some z5
      else
        some (-1))
theorem f_Bytes_wordPlace {w y : Prop} {g : g_S} {n : NS} {m : YS} {v0 : Nat} {xv1 : Nat} {v1 : Int} (ev1 : xv1 = Int.toNat v1) (rv1 : 0 ≤ v1 ∧ lc (Int.toNat v1) = (99, v1)) {xv2 : Int32} {v2 : Int} (ev2 : xv2 = Int32.ofInt v2) (rv2 : inR v2) {xv3 : Int32} {v3 : Int} (ev3 : xv3 = Int32.ofInt v3) (rv3 : inR v3) (hR : RC w y g n m) : Rf (fun a b => RI a b) (M_Bytes_wordPlace v0 xv1 xv2 xv3 g) (N_Bytes_wordPlace v0 v1 v2 v3 n) := by
  subst ev1
  subst ev2
  subst ev3
  unfold M_Bytes_wordPlace N_Bytes_wordPlace
  refine rf_bind (fL_Bytes_wordPlace_12 rfl rv1 rfl rv2 rfl rv3 (e_n 0) (show inR 0 by decide) (e_n 1) (show inR 1 by decide) rfl rv2 (e_n 0) (show inR 0 by decide) hR) (fun a b h => rf_us h (fun a2 z1 h => ?_) (fun a b h => ?_))
  · obtain ⟨rfl, r3⟩ := (show RI a2 z1 from h)
    exact rf_ok (by exact ⟨rfl, r3⟩)
  · obtain ⟨a8, a9, a10⟩ := a
    obtain ⟨z5, z6, z7⟩ := b
    refine rf_u3 ?_
    obtain ⟨rfl, r11⟩ := (show RI a8 z5 from h.1)
    obtain ⟨rfl, r12⟩ := (show RI a9 z6 from h.2.1)
    obtain ⟨rfl, r13⟩ := (show RI a10 z7 from h.2.2)
    refine rf_eq rfl (e_n 0) r12 (show inR 0 by decide) ?_ ?_
    · exact rf_ok (by exact ⟨(e_m 1), (show inR (-1) by decide)⟩)
    · refine rf_eq rfl rfl r13 rv3 ?_ ?_
      · exact rf_ok (by exact ⟨rfl, r11⟩)
      · exact rf_ok (by exact ⟨(e_m 1), (show inR (-1) by decide)⟩)
noncomputable def N_Net_putStore (v1 : Int) (v3 : Int) (n : NS) : Option (NS) :=
  ty n 1582 101 <|
  (N_Net_putRow 26 (n 6 0 8) (n 99 1582 1) v1 v3 n).bind <| u2 fun z8 n11 =>
  st (nw n11 6 0 8 z8) fun n15 =>
  some n15
theorem f_Net_putStore {w y : Prop} {g : g_S} {n : NS} {m : YS} (hw : w) {xv1 : Int64} {v1 : Int} (ev1 : xv1 = Int64.ofInt v1) (rv1 : inL v1) {xv3 : Int64} {v3 : Int} (ev3 : xv3 = Int64.ofInt v3) (rv3 : inL v3) (hR : RC w y g n m) : Rf (fun a b => RC w y a b m) (M_Net_putStore 1569 xv1 xv3 g) (N_Net_putStore v1 v3 n) := by
  subst ev1
  subst ev3
  unfold M_Net_putStore N_Net_putStore
  refine c_S hR hw (sK6 hR hw) (by decide) (show srf 6 0 7 = some 1577 from rfl) ?_
  refine c_I (s := 8) hR (sK6 hR hw) rfl rfl (fun h2 => ?_)
  refine c_S hR hw (sK6 hR hw) (by decide) (show srf 6 0 13 = some 1582 from rfl) ?_
  refine rf_ty (t := 101) dS1582.1 hR (by decide) (fun h5 h6 => ?_)
  refine c_L (s := 1) hR (ce_dy hR dS1582 h6 (by decide)) rfl rfl (fun h4 => ?_)
  refine rf_c2 (f_Net_putRow hw rfl (by decide) rfl h2 rfl h4 rfl rv1 rfl rv3 hR) (fun a10 g13 b h => ?_)
  obtain ⟨z8, n11⟩ := b
  refine rf_v2 ?_
  obtain ⟨rfl, r9⟩ := (show RI a10 z8 from h.1)
  have hR12 : RC w y g13 n11 m := h.2
  refine p_I (s := 8) hR12 (sK6 hR12 hw) rfl ⟨rfl, rfl, by decide⟩ rfl r9 (fun g17 n15 hR16 => ?_)
  exact rf_ok (by exact hR16)
noncomputable def N_Acts_runPut (v1 : Int) (v2 : Int) (v3 : Int) (n : NS) : Option (Int × NS) :=
  (N_Acts_blankAt v1 v2 v3 n).bind fun z2 =>
  if z2 = v3 then
    some (0, n)
  else
    (N_Bytes_isName v1 v2 z2 n).bind fun z8 =>
    if z8 = 0 then
      some (0, n)
    else
      ck (z2 + 1) <|
      (N_Bytes_isName v1 (z2 + 1) v3 n).bind fun z15 =>
      if z15 = 0 then
        some (0, n)
      else
        (N_Bytes_pack v1 v2 z2 n).bind fun z22 =>
        ck (z2 + 1) <|
        (N_Bytes_pack v1 (z2 + 1) v3 n).bind fun z27 =>
        (N_Net_putStore z22 z27 n).bind fun n31 =>
        some (1, n31)
theorem f_Acts_runPut {w y : Prop} {g : g_S} {n : NS} {m : YS} (hw : w) {xv1 : Nat} {v1 : Int} (ev1 : xv1 = Int.toNat v1) (rv1 : 0 ≤ v1 ∧ lc (Int.toNat v1) = (99, v1)) {xv2 : Int32} {v2 : Int} (ev2 : xv2 = Int32.ofInt v2) (rv2 : inR v2) {xv3 : Int32} {v3 : Int} (ev3 : xv3 = Int32.ofInt v3) (rv3 : inR v3) (hR : RC w y g n m) : Rf (fun a b => RZ a.1 b.1 ∧ RC w y a.2 b.2 m) (M_Acts_runPut 1789 xv1 xv2 xv3 g) (N_Acts_runPut v1 v2 v3 n) := by
  subst ev1
  subst ev2
  subst ev3
  unfold M_Acts_runPut N_Acts_runPut
  refine rf_bind (f_Acts_blankAt rfl rv1 rfl rv2 rfl rv3 hR) (fun a4 z2 h => ?_)
  obtain ⟨rfl, r3⟩ := h
  refine rf_eq rfl rfl r3 rv3 ?_ ?_
  · exact rf_ok (by exact ⟨⟨(e_n 0), (.inl rfl)⟩, hR⟩)
  · refine rf_bind (f_Bytes_isName rfl rv1 rfl rv2 rfl r3 hR) (fun a10 z8 h => ?_)
    obtain ⟨rfl, r9⟩ := h
    refine rf_eq rfl (e_n 0) (inZ.r r9) (show inR 0 by decide) ?_ ?_
    · exact rf_ok (by exact ⟨⟨(e_n 0), (.inl rfl)⟩, hR⟩)
    · refine rf_ck (fun h13 => ?_)
      refine rf_bind (f_Bytes_isName rfl rv1 (e_add rfl (e_n 1)) h13 rfl rv3 hR) (fun a17 z15 h => ?_)
      obtain ⟨rfl, r16⟩ := h
      refine rf_eq rfl (e_n 0) (inZ.r r16) (show inR 0 by decide) ?_ ?_
      · exact rf_ok (by exact ⟨⟨(e_n 0), (.inl rfl)⟩, hR⟩)
      · refine c_S hR hw (sK0 hR hw) (by decide) (show srf 0 0 1 = some 1569 from rfl) ?_
        refine rf_bind (f_Bytes_pack rfl rv1 rfl rv2 rfl r3 hR) (fun a24 z22 h => ?_)
        obtain ⟨rfl, r23⟩ := h
        refine rf_ck (fun h25 => ?_)
        refine rf_bind (f_Bytes_pack rfl rv1 (e_add rfl (e_n 1)) h25 rfl rv3 hR) (fun a29 z27 h => ?_)
        obtain ⟨rfl, r28⟩ := h
        refine v_c (sK6 hR hw).1 ?_
        refine rf_bind (f_Net_putStore hw rfl r23 rfl r28 hR) (fun g33 n31 hR32 => ?_)
        exact rf_ok (by exact ⟨⟨(e_n 1), (.inr rfl)⟩, hR32⟩)
noncomputable def N_Acts_runWait (v1 : Int) (v2 : Int) (v3 : Int) (n : NS) : Option (Int × NS) :=
  (N_Acts_blankAt v1 v2 v3 n).bind fun z2 =>
  (N_Bytes_number v1 v2 z2 n).bind fun z6 =>
  if z2 = v3 then
    some (0, n)
  else
    if z6 = (-1) then
      some (0, n)
    else
      if (n 0 0 5) < 20 then
        ck (2 * (n 0 0 5)) <|
        ck ((n 6 0 12) + z6) <|
        ix (2 * (n 0 0 5)) 40 <|
        st (nw n 44 0 (2 * (n 0 0 5)) ((n 6 0 12) + z6)) fun n22 =>
        ck (2 * (n22 0 0 5)) <|
        ck ((2 * (n22 0 0 5)) + 1) <|
        ix ((2 * (n22 0 0 5)) + 1) 40 <|
        st (nw n22 44 0 ((2 * (n22 0 0 5)) + 1) (n22 0 0 13)) fun n31 =>
        ix (n31 0 0 5) 20 <|
        nn (n31 45 0 (n31 0 0 5)) <|
        (N_Bytes_clear (n31 45 0 (n31 0 0 5)) n31).bind fun n39 =>
        ix (n39 0 0 5) 20 <|
        nn (n39 45 0 (n39 0 0 5)) <|
        ck (z2 + 1) <|
        (N_Bytes_addAll (n39 45 0 (n39 0 0 5)) v1 (z2 + 1) v3 n39).bind fun n48 =>
        ck ((n48 0 0 5) + 1) <|
        st (nw n48 0 0 5 ((n48 0 0 5) + 1)) fun n54 =>
        some (1, n54)
      else
        some (1, n)
theorem f_Acts_runWait {w y : Prop} {g : g_S} {n : NS} {m : YS} (hw : w) {xv1 : Nat} {v1 : Int} (ev1 : xv1 = Int.toNat v1) (rv1 : 0 ≤ v1 ∧ lc (Int.toNat v1) = (99, v1)) {xv2 : Int32} {v2 : Int} (ev2 : xv2 = Int32.ofInt v2) (rv2 : inR v2) {xv3 : Int32} {v3 : Int} (ev3 : xv3 = Int32.ofInt v3) (rv3 : inR v3) (hR : RC w y g n m) : Rf (fun a b => RZ a.1 b.1 ∧ RC w y a.2 b.2 m) (M_Acts_runWait 1789 xv1 xv2 xv3 g) (N_Acts_runWait v1 v2 v3 n) := by
  subst ev1
  subst ev2
  subst ev3
  unfold M_Acts_runWait N_Acts_runWait
  refine rf_bind (f_Acts_blankAt rfl rv1 rfl rv2 rfl rv3 hR) (fun a4 z2 h => ?_)
  obtain ⟨rfl, r3⟩ := h
  refine rf_bind (f_Bytes_number rfl rv1 rfl rv2 rfl r3 hR) (fun a8 z6 h => ?_)
  obtain ⟨rfl, r7⟩ := h
  refine rf_eq rfl rfl r3 rv3 ?_ ?_
  · exact rf_ok (by exact ⟨⟨(e_n 0), (.inl rfl)⟩, hR⟩)
  · refine rf_eq rfl (e_m 1) r7 (show inR (-1) by decide) ?_ ?_
    · exact rf_ok (by exact ⟨⟨(e_n 0), (.inl rfl)⟩, hR⟩)
    · refine c_I (s := 5) hR (sK0 hR hw) rfl rfl (fun h13 => ?_)
      refine rf_lt rfl (e_n 20) h13 (show inR 20 by decide) ?_ ?_
      · refine c_S hR hw (sK0 hR hw) (by decide) (show srf 0 0 3 = some 1790 from rfl) ?_
        refine c_I (s := 5) hR (sK0 hR hw) rfl rfl (fun h16 => ?_)
        refine rf_ck (fun h17 => ?_)
        refine c_S hR hw (sK0 hR hw) (by decide) (show srf 0 0 1 = some 1569 from rfl) ?_
        refine c_I (s := 12) hR (sK6 hR hw) rfl rfl (fun h19 => ?_)
        refine rf_ck (fun h20 => ?_)
        refine t_L (L := 40) hR (sA44 hR hw) (lA44 hR hw) rfl (e_mul (e_n 2) rfl) h17 (f_i2l (e_add rfl rfl) h20) (inR.l h20) (fun g24 n22 hR23 => ?_)
        refine c_S hR23 hw (sK0 hR23 hw) (by decide) (show srf 0 0 3 = some 1790 from rfl) ?_
        refine c_I (s := 5) hR23 (sK0 hR23 hw) rfl rfl (fun h26 => ?_)
        refine rf_ck (fun h27 => ?_)
        refine rf_ck (fun h28 => ?_)
        refine c_L (s := 13) hR23 (sK0 hR23 hw) rfl rfl (fun h29 => ?_)
        refine t_L (L := 40) hR23 (sA44 hR23 hw) (lA44 hR23 hw) rfl (e_add (e_mul (e_n 2) rfl) (e_n 1)) h28 rfl h29 (fun g33 n31 hR32 => ?_)
        refine c_S hR32 hw (sK0 hR32 hw) (by decide) (show srf 0 0 4 = some 1791 from rfl) ?_
        refine c_I (s := 5) hR32 (sK0 hR32 hw) rfl rfl (fun h35 => ?_)
        refine s_Y (L := 20) hR32 (sA45 hR32 hw) (lA45 hR32 hw) rfl rfl h35 (fun h36 h37 => ?_)
        refine v_c (ce_by hR32 hw h37).1 ?_
        refine rf_bind (f_Bytes_clear hw rfl h37 hR32) (fun g41 n39 hR40 => ?_)
        refine c_S hR40 hw (sK0 hR40 hw) (by decide) (show srf 0 0 4 = some 1791 from rfl) ?_
        refine c_I (s := 5) hR40 (sK0 hR40 hw) rfl rfl (fun h43 => ?_)
        refine s_Y (L := 20) hR40 (sA45 hR40 hw) (lA45 hR40 hw) rfl rfl h43 (fun h44 h45 => ?_)
        refine rf_ck (fun h46 => ?_)
        refine v_c (ce_by hR40 hw h45).1 ?_
        refine rf_bind (f_Bytes_addAll hw rfl h45 rfl rv1 (e_add rfl (e_n 1)) h46 rfl rv3 hR40) (fun g50 n48 hR49 => ?_)
        refine c_I (s := 5) hR49 (sK0 hR49 hw) rfl rfl (fun h51 => ?_)
        refine rf_ck (fun h52 => ?_)
        refine p_I (s := 5) hR49 (sK0 hR49 hw) rfl ⟨rfl, rfl, by decide⟩ (e_add rfl (e_n 1)) h52 (fun g56 n54 hR55 => ?_)
        exact rf_ok (by exact ⟨⟨(e_n 1), (.inr rfl)⟩, hR55⟩)
      · exact rf_ok (by exact ⟨⟨(e_n 1), (.inr rfl)⟩, hR⟩)
noncomputable def nk_Tree_alive_48 (v3 : Int) (w0 : Int) (n : NS) : Option (Int) :=
  if w0 = 0 then
    some (-1)
  else
    some v3
theorem fk_Tree_alive_48 {w y : Prop} {g : g_S} {n : NS} {m : YS} (hw : w) {xv3 : Int32} {v3 : Int} (ev3 : xv3 = Int32.ofInt v3) (rv3 : inR v3) {xw0 : Int32} {w0 : Int} (ew0 : xw0 = Int32.ofInt w0) (rw0 : inR w0) (hR : RC w y g n m) : Rf (fun a b => RI a b) (k_Tree_alive_48 xv3 xw0 g) (nk_Tree_alive_48 v3 w0 n) := by
  subst ev3
  subst ew0
  unfold k_Tree_alive_48 nk_Tree_alive_48
  refine rf_eq rfl (e_n 0) rw0 (show inR 0 by decide) ?_ ?_
  · exact rf_ok (by exact ⟨(e_m 1), (show inR (-1) by decide)⟩)
  · exact rf_ok (by exact ⟨rfl, rv3⟩)
noncomputable def nk_Tree_alive_47 (v3 : Int) (n : NS) : Option (Int) :=
  nk_Tree_alive_48 v3 0 n
theorem fk_Tree_alive_47 {w y : Prop} {g : g_S} {n : NS} {m : YS} (hw : w) {xv3 : Int32} {v3 : Int} (ev3 : xv3 = Int32.ofInt v3) (rv3 : inR v3) (hR : RC w y g n m) : Rf (fun a b => RI a b) (k_Tree_alive_47 xv3 g) (nk_Tree_alive_47 v3 n) := by
  subst ev3
  unfold k_Tree_alive_47 nk_Tree_alive_47
  exact fk_Tree_alive_48 hw rfl rv3 (e_n 0) (show inR 0 by decide) hR
noncomputable def N_Tree_alive (v1 : Int) (n : NS) : Option (Int) :=
  ck (v1 % 128) <|
  if (v1 % 128) < 120 then
    ix (v1 % 128) 120 <|
    if (n 7 (v1 % 128) 0) = (-1) then
      nk_Tree_alive_47 (v1 % 128) n
    else
      ix (v1 % 128) 120 <|
      if (n 7 (v1 % 128) 10) = (v1 / 128) then
        nk_Tree_alive_48 (v1 % 128) 1 n
      else
        nk_Tree_alive_47 (v1 % 128) n
  else
    nk_Tree_alive_47 (v1 % 128) n
theorem f_Tree_alive {w y : Prop} {g : g_S} {n : NS} {m : YS} (hw : w) {xv1 : Int64} {v1 : Int} (ev1 : xv1 = Int64.ofInt v1) (rv1 : inL v1) (hR : RC w y g n m) : Rf (fun a b => RI a b) (M_Tree_alive 5 xv1 g) (N_Tree_alive v1 n) := by
  subst ev1
  unfold M_Tree_alive N_Tree_alive
  refine rf_ck (fun h2 => ?_)
  refine rf_lt (e_l2i (f_and127 rfl)) (e_n 120) h2 (show inR 120 by decide) ?_ ?_
  · refine c_S hR hw (sK10 hR hw) (by decide) (show srf 10 0 0 = some 6 from rfl) ?_
    refine s_S (p := aNd (_)) (L := 120) hR hw (sA20 hR hw) (by decide) (lA20 hR hw) rfl (e_l2i (f_and127 rfl)) h2 (fun z1 z2 => srf20 z1 z2) (fun h5 => ?_)
    refine c_I (s := 0) hR (ce_nd hR hw (And.intro h5.1 (Int.le_of_lt h5.2))) rfl rfl (fun h7 => ?_)
    refine rf_eq rfl (e_m 1) h7 (show inR (-1) by decide) ?_ ?_
    · exact fk_Tree_alive_47 hw (e_l2i (f_and127 rfl)) h2 hR
    · refine c_S hR hw (sK10 hR hw) (by decide) (show srf 10 0 0 = some 6 from rfl) ?_
      refine s_S (p := aNd (_)) (L := 120) hR hw (sA20 hR hw) (by decide) (lA20 hR hw) rfl (e_l2i (f_and127 rfl)) h2 (fun z1 z2 => srf20 z1 z2) (fun h10 => ?_)
      refine c_L (s := 10) hR (ce_nd hR hw (And.intro h10.1 (Int.le_of_lt h10.2))) rfl rfl (fun h12 => ?_)
      refine rf_leq rfl (f_shr7 rfl rv1) h12 (q128 rv1) ?_ ?_
      · exact fk_Tree_alive_48 hw (e_l2i (f_and127 rfl)) h2 (e_n 1) (show inR 1 by decide) hR
      · exact fk_Tree_alive_47 hw (e_l2i (f_and127 rfl)) h2 hR
  · exact fk_Tree_alive_47 hw (e_l2i (f_and127 rfl)) h2 hR
noncomputable def nb_Bytes_packed_4 (v0 : Int) (v1 : Int) (v3 : Int) (n : NS) : Option ((Int × Int) ⊕ (Int)) :=
  if v3 < (n 4 v0 2) then
    if 8 < (n 4 v0 2) then
      some (.inr v1)
    else
      ckL (v1 * 256) <|
      nn (n 4 v0 1) <|
      dx n (n 4 v0 1) 1 v3 <|
      or8 (v1 * 256) (n 99 (n 4 v0 1) v3) <|
      ckL ((v1 * 256) + (n 99 (n 4 v0 1) v3)) <|
      ck (v3 + 1) <|
      some (.inl ((v1 * 256) + (n 99 (n 4 v0 1) v3), v3 + 1))
  else
    some (.inr v1)
theorem fb_Bytes_packed_4 {w y : Prop} {g : g_S} {n : NS} {m : YS} (hw : w) {xv0 : Nat} {v0 : Int} (ev0 : xv0 = aBy v0) (rv0 : 0 ≤ v0 ∧ v0 ≤ 631) {xv1 : Int64} {v1 : Int} (ev1 : xv1 = Int64.ofInt v1) (rv1 : inL v1) {xv3 : Int32} {v3 : Int} (ev3 : xv3 = Int32.ofInt v3) (rv3 : inR v3) (hR : RC w y g n m) : Rf (RS (fun a b => RJ a.1 b.1 ∧ RI a.2 b.2) (fun a b => RJ a b)) (b_Bytes_packed_4 xv0 xv1 xv3 g) (nb_Bytes_packed_4 v0 v1 v3 n) := by
  subst ev0
  subst ev1
  subst ev3
  unfold b_Bytes_packed_4 nb_Bytes_packed_4
  refine c_I (s := 2) hR (ce_by hR hw rv0) rfl rfl (fun h1 => ?_)
  refine rf_lt rfl rfl rv3 h1 ?_ ?_
  · refine c_I (s := 2) hR (ce_by hR hw rv0) rfl rfl (fun h3 => ?_)
    refine rf_lt (e_n 8) rfl (show inR 8 by decide) h3 ?_ ?_
    · exact rf_ok (by exact ⟨rfl, rv1⟩)
    · refine rf_ckL (fun h5 => ?_)
      refine c_D (s := 1) hR (ce_by hR hw rv0) rfl rfl rfl (fun h6 => ?_)
      refine d_B hR h6 rfl rv3 (fun h7 h8 => ?_)
      refine rf_or8 (fun h9 => ?_)
      refine rf_ckL (fun h10 => ?_)
      refine rf_ck (fun h11 => ?_)
      exact rf_ok (by exact ⟨⟨(f_or8 (f_shl8 rfl) (f_i2l rfl (inB.r h8)) h9), h10⟩, ⟨(e_add rfl (e_n 1)), h11⟩⟩)
  · exact rf_ok (by exact ⟨rfl, rv1⟩)
noncomputable def NL_Bytes_packed_4 (v0 : Int) (v1 : Int) (v3 : Int) (n : NS) : Option (Int) :=
  it (fun s : Int × Int => nb_Bytes_packed_4 v0 s.1 s.2 n) (v1, v3)
theorem fL_Bytes_packed_4 {w y : Prop} {g : g_S} {n : NS} {m : YS} (hw : w) {xv0 : Nat} {v0 : Int} (ev0 : xv0 = aBy v0) (rv0 : 0 ≤ v0 ∧ v0 ≤ 631) {xv1 : Int64} {v1 : Int} (ev1 : xv1 = Int64.ofInt v1) (rv1 : inL v1) {xv3 : Int32} {v3 : Int} (ev3 : xv3 = Int32.ofInt v3) (rv3 : inR v3) (hR : RC w y g n m) : Rf (fun a b => RJ a b) (L_Bytes_packed_4 xv0 xv1 xv3 g) (NL_Bytes_packed_4 v0 v1 v3 n) := by
  subst ev0
  subst ev1
  subst ev3
  unfold L_Bytes_packed_4 NL_Bytes_packed_4
  refine rf_it (I := (fun a b => RJ a.1 b.1 ∧ RI a.2 b.2)) (fun s t h => ?_) ⟨⟨rfl, rv1⟩, ⟨rfl, rv3⟩⟩
  exact fb_Bytes_packed_4 hw rfl rv0 h.1.1 h.1.2 h.2.1 h.2.2 hR
theorem NL_Bytes_packed_4_eq (v0 : Int) (v1 : Int) (v3 : Int) (n : NS) : NL_Bytes_packed_4 v0 v1 v3 n = itc (nb_Bytes_packed_4 v0 v1 v3 n) (fun s => NL_Bytes_packed_4 v0 s.1 s.2 n) := it_eq2 (fun s : Int × Int => nb_Bytes_packed_4 v0 s.1 s.2 n) (v1, v3)
noncomputable def N_Bytes_packed (v0 : Int) (n : NS) : Option (Int) :=
  (NL_Bytes_packed_4 v0 0 0 n).bind <| fun z1 =>
  some z1
theorem f_Bytes_packed {w y : Prop} {g : g_S} {n : NS} {m : YS} (hw : w) {xv0 : Nat} {v0 : Int} (ev0 : xv0 = aBy v0) (rv0 : 0 ≤ v0 ∧ v0 ≤ 631) (hR : RC w y g n m) : Rf (fun a b => RJ a b) (M_Bytes_packed xv0 g) (N_Bytes_packed v0 n) := by
  subst ev0
  unfold M_Bytes_packed N_Bytes_packed
  refine rf_bind (fL_Bytes_packed_4 hw rfl rv0 (f_n 0) (show inL 0 by decide) (e_n 0) (show inR 0 by decide) hR) (fun a2 z1 h => ?_)
  obtain ⟨rfl, r3⟩ := (show RJ a2 z1 from h)
  exact rf_ok (by exact ⟨rfl, r3⟩)
noncomputable def nb_Tree_findId_13 (v1 : Int) (v3 : Int) (v5 : Int) (n : NS) : Option ((Int) ⊕ ((Int) ⊕ (Unit))) :=
  if v5 < (n 10 0 3) then
    ix v5 120 <|
    ix (n 22 0 v5) 120 <|
    (N_Node_find (n 22 0 v5) v3 n).bind fun z10 =>
    if z10 < 0 then
      ck (v5 + 1) <|
      some (.inl (v5 + 1))
    else
      (N_Bytes_packed z10 n).bind fun z16 =>
      if z16 = v1 then
        some (.inr (.inl v5))
      else
        ck (v5 + 1) <|
        some (.inl (v5 + 1))
  else
    some (.inr (.inr ()))
theorem fb_Tree_findId_13 {w y : Prop} {g : g_S} {n : NS} {m : YS} (hw : w) {xv1 : Int64} {v1 : Int} (ev1 : xv1 = Int64.ofInt v1) (rv1 : inL v1) {xv3 : Int64} {v3 : Int} (ev3 : xv3 = Int64.ofInt v3) (rv3 : inL v3) {xv5 : Int32} {v5 : Int} (ev5 : xv5 = Int32.ofInt v5) (rv5 : inR v5) (hR : RC w y g n m) : Rf (RS (fun a b => RI a b) (RS (fun a b => RI a b) (fun _ _ => True))) (b_Tree_findId_13 5 xv1 xv3 xv5 g) (nb_Tree_findId_13 v1 v3 v5 n) := by
  subst ev1
  subst ev3
  subst ev5
  unfold b_Tree_findId_13 nb_Tree_findId_13
  refine c_I (s := 3) hR (sK10 hR hw) rfl rfl (fun h1 => ?_)
  refine rf_lt rfl rfl rv5 h1 ?_ ?_
  · refine c_S hR hw (sK10 hR hw) (by decide) (show srf 10 0 0 = some 6 from rfl) ?_
    refine c_S hR hw (sK10 hR hw) (by decide) (show srf 10 0 2 = some 8 from rfl) ?_
    refine s_I (L := 120) hR (sA22 hR hw) rfl (lA22 hR hw) rfl rfl rv5 (fun h5 h6 => ?_)
    refine s_S (p := aNd (_)) (L := 120) hR hw (sA20 hR hw) (by decide) (lA20 hR hw) rfl rfl h6 (fun z1 z2 => srf20 z1 z2) (fun h7 => ?_)
    refine v_c (ce_nd hR hw (And.intro h7.1 (Int.le_of_lt h7.2))).1 ?_
    refine rf_bind (f_Node_find hw rfl (And.intro h7.1 (Int.le_of_lt h7.2)) rfl rv3 hR) (fun a12 z10 h => ?_)
    obtain ⟨rfl, r11⟩ := h
    refine rf_oy (fun h13 => ?_) (fun h13 => ?_)
    · refine v_c (ce_by hR hw (And.intro h13 r11)).1 ?_
      refine rf_bind (f_Bytes_packed hw rfl (And.intro h13 r11) hR) (fun a18 z16 h => ?_)
      obtain ⟨rfl, r17⟩ := h
      refine rf_leq rfl rfl r17 rv1 ?_ ?_
      · exact rf_ok (by exact ⟨rfl, rv5⟩)
      · refine rf_ck (fun h20 => ?_)
        exact rf_ok (by exact ⟨(e_add rfl (e_n 1)), h20⟩)
    · refine rf_ck (fun h22 => ?_)
      exact rf_ok (by exact ⟨(e_add rfl (e_n 1)), h22⟩)
  · exact rf_ok (by exact trivial)
noncomputable def NL_Tree_findId_13 (v1 : Int) (v3 : Int) (v5 : Int) (n : NS) : Option ((Int) ⊕ (Unit)) :=
  it (fun s : Int => nb_Tree_findId_13 v1 v3 s n) (v5)
theorem fL_Tree_findId_13 {w y : Prop} {g : g_S} {n : NS} {m : YS} (hw : w) {xv1 : Int64} {v1 : Int} (ev1 : xv1 = Int64.ofInt v1) (rv1 : inL v1) {xv3 : Int64} {v3 : Int} (ev3 : xv3 = Int64.ofInt v3) (rv3 : inL v3) {xv5 : Int32} {v5 : Int} (ev5 : xv5 = Int32.ofInt v5) (rv5 : inR v5) (hR : RC w y g n m) : Rf (RS (fun a b => RI a b) (fun _ _ => True)) (L_Tree_findId_13 5 xv1 xv3 xv5 g) (NL_Tree_findId_13 v1 v3 v5 n) := by
  subst ev1
  subst ev3
  subst ev5
  unfold L_Tree_findId_13 NL_Tree_findId_13
  refine rf_it (I := (fun a b => RI a b)) (fun s t h => ?_) ⟨rfl, rv5⟩
  exact fb_Tree_findId_13 hw rfl rv1 rfl rv3 h.1 h.2 hR
theorem NL_Tree_findId_13_eq (v1 : Int) (v3 : Int) (v5 : Int) (n : NS) : NL_Tree_findId_13 v1 v3 v5 n = itc (nb_Tree_findId_13 v1 v3 v5 n) (fun s => NL_Tree_findId_13 v1 v3 s n) := it_eq2 (fun s : Int => nb_Tree_findId_13 v1 v3 s n) (v5)
noncomputable def N_Tree_findId (v1 : Int) (n : NS) : Option (Int × NS) :=
  (N_Tree_list n).bind fun n2 =>
  (N_Bytes_pack_1 1000024 n2).bind fun z7 =>
  (NL_Tree_findId_13 v1 z7 0 n2).bind <|
    us (fun z10 =>
    ix z10 120 <|
    some ((n2 22 0 z10), n2))
    (fun _ =>
    some ((-1), n2))
theorem f_Tree_findId {w y : Prop} {g : g_S} {n : NS} {m : YS} (hw : w) {xv1 : Int64} {v1 : Int} (ev1 : xv1 = Int64.ofInt v1) (rv1 : inL v1) (hR : RC w y g n m) : Rf (fun a b => RI a.1 b.1 ∧ RC w y a.2 b.2 m) (M_Tree_findId 5 xv1 g) (N_Tree_findId v1 n) := by
  subst ev1
  unfold M_Tree_findId N_Tree_findId
  refine v_c (sK10 hR hw).1 ?_
  refine rf_bind (f_Tree_list hw hR) (fun g4 n2 hR3 => ?_)
  refine rf_bind (f_Bytes_pack_1 hR3) (fun a9 z7 h => ?_)
  obtain ⟨rfl, r8⟩ := h
  refine rf_bind (fL_Tree_findId_13 hw rfl rv1 rfl r8 (e_n 0) (show inR 0 by decide) hR3) (fun a b h => rf_us h (fun a11 z10 h => ?_) (fun a b h => ?_))
  · obtain ⟨rfl, r12⟩ := (show RI a11 z10 from h)
    refine c_S hR3 hw (sK10 hR3 hw) (by decide) (show srf 10 0 2 = some 8 from rfl) ?_
    refine s_I (L := 120) hR3 (sA22 hR3 hw) rfl (lA22 hR3 hw) rfl rfl r12 (fun h14 h15 => ?_)
    exact rf_ok (by exact ⟨⟨rfl, h15⟩, hR3⟩)
  · exact rf_ok (by exact ⟨⟨(e_m 1), (show inR (-1) by decide)⟩, hR3⟩)
noncomputable def N_Acts_nodeCalled (v1 : Int) (v2 : Int) (v3 : Int) (n : NS) : Option (Int × NS) :=
  (N_Bytes_isName v1 v2 v3 n).bind fun z2 =>
  if z2 = 0 then
    some ((-1), n)
  else
    (N_Bytes_pack v1 v2 v3 n).bind fun z8 =>
    (N_Bytes_pack_1 1000023 n).bind fun z13 =>
    if z8 = z13 then
      (N_Tree_alive (n 0 0 13) n).bind fun z20 =>
      some (z20, n)
    else
      (N_Tree_findId z8 n).bind <| u2 fun z26 n29 =>
      some (z26, n29)
theorem f_Acts_nodeCalled {w y : Prop} {g : g_S} {n : NS} {m : YS} (hw : w) {xv1 : Nat} {v1 : Int} (ev1 : xv1 = Int.toNat v1) (rv1 : 0 ≤ v1 ∧ lc (Int.toNat v1) = (99, v1)) {xv2 : Int32} {v2 : Int} (ev2 : xv2 = Int32.ofInt v2) (rv2 : inR v2) {xv3 : Int32} {v3 : Int} (ev3 : xv3 = Int32.ofInt v3) (rv3 : inR v3) (hR : RC w y g n m) : Rf (fun a b => RI a.1 b.1 ∧ RC w y a.2 b.2 m) (M_Acts_nodeCalled 1789 xv1 xv2 xv3 g) (N_Acts_nodeCalled v1 v2 v3 n) := by
  subst ev1
  subst ev2
  subst ev3
  unfold M_Acts_nodeCalled N_Acts_nodeCalled
  refine rf_bind (f_Bytes_isName rfl rv1 rfl rv2 rfl rv3 hR) (fun a4 z2 h => ?_)
  obtain ⟨rfl, r3⟩ := h
  refine rf_eq rfl (e_n 0) (inZ.r r3) (show inR 0 by decide) ?_ ?_
  · exact rf_ok (by exact ⟨⟨(e_m 1), (show inR (-1) by decide)⟩, hR⟩)
  · refine rf_bind (f_Bytes_pack rfl rv1 rfl rv2 rfl rv3 hR) (fun a10 z8 h => ?_)
    obtain ⟨rfl, r9⟩ := h
    refine rf_bind (f_Bytes_pack_1 hR) (fun a15 z13 h => ?_)
    obtain ⟨rfl, r14⟩ := h
    refine rf_leq rfl rfl r9 r14 ?_ ?_
    · refine c_S hR hw (sK0 hR hw) (by decide) (show srf 0 0 0 = some 5 from rfl) ?_
      refine c_L (s := 13) hR (sK0 hR hw) rfl rfl (fun h18 => ?_)
      refine v_c (sK10 hR hw).1 ?_
      refine rf_bind (f_Tree_alive hw rfl h18 hR) (fun a22 z20 h => ?_)
      obtain ⟨rfl, r21⟩ := h
      exact rf_ok (by exact ⟨⟨rfl, r21⟩, hR⟩)
    · refine c_S hR hw (sK0 hR hw) (by decide) (show srf 0 0 0 = some 5 from rfl) ?_
      refine v_c2 (sK10 hR hw).1 ?_
      refine rf_c2 (f_Tree_findId hw rfl r9 hR) (fun a28 g31 b h => ?_)
      obtain ⟨z26, n29⟩ := b
      refine rf_v2 ?_
      obtain ⟨rfl, r27⟩ := (show RI a28 z26 from h.1)
      have hR30 : RC w y g31 n29 m := h.2
      exact rf_ok (by exact ⟨⟨rfl, r27⟩, hR30⟩)
noncomputable def nb_Tree_remove_39 (v1 : Int) (v2 : Int) (v3 : Int) (v4 : Int) (v5 : Int) (n : NS) : Option ((Int × Int) ⊕ (Int)) :=
  if v5 = (-1) then
    some (.inr v4)
  else
    if v5 = v1 then
      some (.inr v4)
    else
      ix v5 120 <|
      some (.inl (v5, (n 7 v5 5)))
theorem fb_Tree_remove_39 {w y : Prop} {g : g_S} {n : NS} {m : YS} (hw : w) {xv1 : Int32} {v1 : Int} (ev1 : xv1 = Int32.ofInt v1) (rv1 : inR v1) {xv2 : Nat} {v2 : Int} (ev2 : xv2 = aNd v2) (rv2 : 0 ≤ v2 ∧ v2 ≤ 120) {xv3 : Nat} {v3 : Int} (ev3 : xv3 = aNd v3) (rv3 : 0 ≤ v3 ∧ v3 ≤ 120) {xv4 : Int32} {v4 : Int} (ev4 : xv4 = Int32.ofInt v4) (rv4 : inR v4) {xv5 : Int32} {v5 : Int} (ev5 : xv5 = Int32.ofInt v5) (rv5 : inR v5) (hR : RC w y g n m) : Rf (RS (fun a b => RI a.1 b.1 ∧ RI a.2 b.2) (fun a b => RI a b)) (b_Tree_remove_39 5 xv1 xv2 xv3 xv4 xv5 g) (nb_Tree_remove_39 v1 v2 v3 v4 v5 n) := by
  subst ev1
  subst ev2
  subst ev3
  subst ev4
  subst ev5
  unfold b_Tree_remove_39 nb_Tree_remove_39
  refine rf_eq rfl (e_m 1) rv5 (show inR (-1) by decide) ?_ ?_
  · exact rf_ok (by exact ⟨rfl, rv4⟩)
  · refine rf_eq rfl rfl rv5 rv1 ?_ ?_
    · exact rf_ok (by exact ⟨rfl, rv4⟩)
    · refine c_S hR hw (sK10 hR hw) (by decide) (show srf 10 0 0 = some 6 from rfl) ?_
      refine s_S (p := aNd (_)) (L := 120) hR hw (sA20 hR hw) (by decide) (lA20 hR hw) rfl rfl rv5 (fun z1 z2 => srf20 z1 z2) (fun h4 => ?_)
      refine c_I (s := 5) hR (ce_nd hR hw (And.intro h4.1 (Int.le_of_lt h4.2))) rfl rfl (fun h6 => ?_)
      exact rf_ok (by exact ⟨⟨rfl, rv5⟩, ⟨rfl, h6⟩⟩)
noncomputable def NL_Tree_remove_39 (v1 : Int) (v2 : Int) (v3 : Int) (v4 : Int) (v5 : Int) (n : NS) : Option (Int) :=
  it (fun s : Int × Int => nb_Tree_remove_39 v1 v2 v3 s.1 s.2 n) (v4, v5)
theorem fL_Tree_remove_39 {w y : Prop} {g : g_S} {n : NS} {m : YS} (hw : w) {xv1 : Int32} {v1 : Int} (ev1 : xv1 = Int32.ofInt v1) (rv1 : inR v1) {xv2 : Nat} {v2 : Int} (ev2 : xv2 = aNd v2) (rv2 : 0 ≤ v2 ∧ v2 ≤ 120) {xv3 : Nat} {v3 : Int} (ev3 : xv3 = aNd v3) (rv3 : 0 ≤ v3 ∧ v3 ≤ 120) {xv4 : Int32} {v4 : Int} (ev4 : xv4 = Int32.ofInt v4) (rv4 : inR v4) {xv5 : Int32} {v5 : Int} (ev5 : xv5 = Int32.ofInt v5) (rv5 : inR v5) (hR : RC w y g n m) : Rf (fun a b => RI a b) (L_Tree_remove_39 5 xv1 xv2 xv3 xv4 xv5 g) (NL_Tree_remove_39 v1 v2 v3 v4 v5 n) := by
  subst ev1
  subst ev2
  subst ev3
  subst ev4
  subst ev5
  unfold L_Tree_remove_39 NL_Tree_remove_39
  refine rf_it (I := (fun a b => RI a.1 b.1 ∧ RI a.2 b.2)) (fun s t h => ?_) ⟨⟨rfl, rv4⟩, ⟨rfl, rv5⟩⟩
  exact fb_Tree_remove_39 hw rfl rv1 rfl rv2 rfl rv3 h.1.1 h.1.2 h.2.1 h.2.2 hR
theorem NL_Tree_remove_39_eq (v1 : Int) (v2 : Int) (v3 : Int) (v4 : Int) (v5 : Int) (n : NS) : NL_Tree_remove_39 v1 v2 v3 v4 v5 n = itc (nb_Tree_remove_39 v1 v2 v3 v4 v5 n) (fun s => NL_Tree_remove_39 v1 v2 v3 s.1 s.2 n) := it_eq2 (fun s : Int × Int => nb_Tree_remove_39 v1 v2 v3 s.1 s.2 n) (v4, v5)
noncomputable def nk_Tree_remove_115 (v2 : Int) (v3 : Int) (n : NS) : Option (NS) :=
  ck ((n 7 v3 6) - 1) <|
  st (nw n 7 v3 6 ((n 7 v3 6) - 1)) fun n4 =>
  (N_Tree_free (n4 7 v2 8) (n4 7 v2 9) n4).bind fun n10 =>
  some n10
theorem fk_Tree_remove_115 {w y : Prop} {g : g_S} {n : NS} {m : YS} (hw : w) {xv2 : Nat} {v2 : Int} (ev2 : xv2 = aNd v2) (rv2 : 0 ≤ v2 ∧ v2 ≤ 120) {xv3 : Nat} {v3 : Int} (ev3 : xv3 = aNd v3) (rv3 : 0 ≤ v3 ∧ v3 ≤ 120) (hR : RC w y g n m) : Rf (fun a b => RC w y a b m) (k_Tree_remove_115 5 xv2 xv3 g) (nk_Tree_remove_115 v2 v3 n) := by
  subst ev2
  subst ev3
  unfold k_Tree_remove_115 nk_Tree_remove_115
  refine c_I (s := 6) hR (ce_nd hR hw rv3) rfl rfl (fun h1 => ?_)
  refine rf_ck (fun h2 => ?_)
  refine p_I (s := 6) hR (ce_nd hR hw rv3) rfl ⟨rfl, rfl, by decide⟩ (e_sub rfl (e_n 1)) h2 (fun g6 n4 hR5 => ?_)
  refine c_I (s := 8) hR5 (ce_nd hR5 hw rv2) rfl rfl (fun h7 => ?_)
  refine c_I (s := 9) hR5 (ce_nd hR5 hw rv2) rfl rfl (fun h8 => ?_)
  refine v_c (sK10 hR5 hw).1 ?_
  refine rf_bind (f_Tree_free hw rfl h7 rfl h8 hR5) (fun g12 n10 hR11 => ?_)
  exact rf_ok (by exact hR11)
noncomputable def nk_Tree_remove_101 (v1 : Int) (v2 : Int) (v3 : Int) (v4 : Int) (n : NS) : Option (NS) :=
  if (n 7 v3 4) = v1 then
    st (nw n 7 v3 4 v4) fun n4 =>
    nk_Tree_remove_115 v2 v3 n4
  else
    nk_Tree_remove_115 v2 v3 n
theorem fk_Tree_remove_101 {w y : Prop} {g : g_S} {n : NS} {m : YS} (hw : w) {xv1 : Int32} {v1 : Int} (ev1 : xv1 = Int32.ofInt v1) (rv1 : inR v1) {xv2 : Nat} {v2 : Int} (ev2 : xv2 = aNd v2) (rv2 : 0 ≤ v2 ∧ v2 ≤ 120) {xv3 : Nat} {v3 : Int} (ev3 : xv3 = aNd v3) (rv3 : 0 ≤ v3 ∧ v3 ≤ 120) {xv4 : Int32} {v4 : Int} (ev4 : xv4 = Int32.ofInt v4) (rv4 : inR v4) (hR : RC w y g n m) : Rf (fun a b => RC w y a b m) (k_Tree_remove_101 5 xv1 xv2 xv3 xv4 g) (nk_Tree_remove_101 v1 v2 v3 v4 n) := by
  subst ev1
  subst ev2
  subst ev3
  subst ev4
  unfold k_Tree_remove_101 nk_Tree_remove_101
  refine c_I (s := 4) hR (ce_nd hR hw rv3) rfl rfl (fun h1 => ?_)
  refine rf_eq rfl rfl h1 rv1 ?_ ?_
  · refine p_I (s := 4) hR (ce_nd hR hw rv3) rfl ⟨rfl, rfl, by decide⟩ rfl rv4 (fun g6 n4 hR5 => ?_)
    exact fk_Tree_remove_115 hw rfl rv2 rfl rv3 hR5
  · exact fk_Tree_remove_115 hw rfl rv2 rfl rv3 hR
noncomputable def nk_Tree_remove_70 (v1 : Int) (v2 : Int) (v3 : Int) (v4 : Int) (n : NS) : Option (NS) :=
  if v4 = (-1) then
    st (nw n 7 v3 3 (n 7 v2 5)) fun n4 =>
    nk_Tree_remove_101 v1 v2 v3 v4 n4
  else
    ix v4 120 <|
    st (nw n 7 v4 5 (n 7 v2 5)) fun n12 =>
    nk_Tree_remove_101 v1 v2 v3 v4 n12
theorem fk_Tree_remove_70 {w y : Prop} {g : g_S} {n : NS} {m : YS} (hw : w) {xv1 : Int32} {v1 : Int} (ev1 : xv1 = Int32.ofInt v1) (rv1 : inR v1) {xv2 : Nat} {v2 : Int} (ev2 : xv2 = aNd v2) (rv2 : 0 ≤ v2 ∧ v2 ≤ 120) {xv3 : Nat} {v3 : Int} (ev3 : xv3 = aNd v3) (rv3 : 0 ≤ v3 ∧ v3 ≤ 120) {xv4 : Int32} {v4 : Int} (ev4 : xv4 = Int32.ofInt v4) (rv4 : inR v4) (hR : RC w y g n m) : Rf (fun a b => RC w y a b m) (k_Tree_remove_70 5 xv1 xv2 xv3 xv4 g) (nk_Tree_remove_70 v1 v2 v3 v4 n) := by
  subst ev1
  subst ev2
  subst ev3
  subst ev4
  unfold k_Tree_remove_70 nk_Tree_remove_70
  refine rf_eq rfl (e_m 1) rv4 (show inR (-1) by decide) ?_ ?_
  · refine c_I (s := 5) hR (ce_nd hR hw rv2) rfl rfl (fun h2 => ?_)
    refine p_I (s := 3) hR (ce_nd hR hw rv3) rfl ⟨rfl, rfl, by decide⟩ rfl h2 (fun g6 n4 hR5 => ?_)
    exact fk_Tree_remove_101 hw rfl rv1 rfl rv2 rfl rv3 rfl rv4 hR5
  · refine c_S hR hw (sK10 hR hw) (by decide) (show srf 10 0 0 = some 6 from rfl) ?_
    refine s_S (p := aNd (_)) (L := 120) hR hw (sA20 hR hw) (by decide) (lA20 hR hw) rfl rfl rv4 (fun z1 z2 => srf20 z1 z2) (fun h8 => ?_)
    refine c_I (s := 5) hR (ce_nd hR hw rv2) rfl rfl (fun h10 => ?_)
    refine p_I (s := 5) hR (ce_nd hR hw (And.intro h8.1 (Int.le_of_lt h8.2))) rfl ⟨rfl, rfl, by decide⟩ rfl h10 (fun g14 n12 hR13 => ?_)
    exact fk_Tree_remove_101 hw rfl rv1 rfl rv2 rfl rv3 rfl rv4 hR13
noncomputable def N_Tree_remove (v1 : Int) (n : NS) : Option (NS) :=
  ix v1 120 <|
  if (n 7 v1 2) = (-1) then
    some n
  else
    (N_Tree_list n).bind fun n8 =>
    ix (n8 7 v1 2) 120 <|
    (NL_Tree_remove_39 v1 v1 (n8 7 v1 2) (-1) (n8 7 (n8 7 v1 2) 3) n8).bind <| fun z16 =>
    nk_Tree_remove_70 v1 v1 (n8 7 v1 2) z16 n8
theorem f_Tree_remove {w y : Prop} {g : g_S} {n : NS} {m : YS} (hw : w) {xv1 : Int32} {v1 : Int} (ev1 : xv1 = Int32.ofInt v1) (rv1 : inR v1) (hR : RC w y g n m) : Rf (fun a b => RC w y a b m) (M_Tree_remove 5 xv1 g) (N_Tree_remove v1 n) := by
  subst ev1
  unfold M_Tree_remove N_Tree_remove
  refine c_S hR hw (sK10 hR hw) (by decide) (show srf 10 0 0 = some 6 from rfl) ?_
  refine s_S (p := aNd (_)) (L := 120) hR hw (sA20 hR hw) (by decide) (lA20 hR hw) rfl rfl rv1 (fun z1 z2 => srf20 z1 z2) (fun h2 => ?_)
  refine c_I (s := 2) hR (ce_nd hR hw (And.intro h2.1 (Int.le_of_lt h2.2))) rfl rfl (fun h4 => ?_)
  refine rf_eq rfl (e_m 1) h4 (show inR (-1) by decide) ?_ ?_
  · exact rf_ok (by exact hR)
  · refine v_c (sK10 hR hw).1 ?_
    refine rf_bind (f_Tree_list hw hR) (fun g10 n8 hR9 => ?_)
    refine c_S hR9 hw (sK10 hR9 hw) (by decide) (show srf 10 0 0 = some 6 from rfl) ?_
    refine c_I (s := 2) hR9 (ce_nd hR9 hw (And.intro h2.1 (Int.le_of_lt h2.2))) rfl rfl (fun h12 => ?_)
    refine s_S (p := aNd (_)) (L := 120) hR9 hw (sA20 hR9 hw) (by decide) (lA20 hR9 hw) rfl rfl h12 (fun z1 z2 => srf20 z1 z2) (fun h13 => ?_)
    refine c_I (s := 3) hR9 (ce_nd hR9 hw (And.intro h13.1 (Int.le_of_lt h13.2))) rfl rfl (fun h15 => ?_)
    refine rf_bind (fL_Tree_remove_39 hw rfl rv1 rfl (And.intro h2.1 (Int.le_of_lt h2.2)) rfl (And.intro h13.1 (Int.le_of_lt h13.2)) (e_m 1) (show inR (-1) by decide) rfl h15 hR9) (fun a17 z16 h => ?_)
    obtain ⟨rfl, r18⟩ := (show RI a17 z16 from h)
    exact fk_Tree_remove_70 hw rfl rv1 rfl (And.intro h2.1 (Int.le_of_lt h2.2)) rfl (And.intro h13.1 (Int.le_of_lt h13.2)) rfl r18 hR9
noncomputable def nk_Tree_setClass_38 (v2 : Int) (v3 : Int) (v4 : Int) (v8 : Int) (n : NS) : Option (NS) :=
  if v8 < 0 then
    some n
  else
    (N_Bytes_clear v8 n).bind fun n4 =>
    (N_Bytes_addAll v8 v2 v3 v4 n4).bind fun n8 =>
    ck ((n8 10 0 6) + 1) <|
    st (nw n8 10 0 6 ((n8 10 0 6) + 1)) fun n14 =>
    some n14
theorem fk_Tree_setClass_38 {w y : Prop} {g : g_S} {n : NS} {m : YS} (hw : w) {xv2 : Nat} {v2 : Int} (ev2 : xv2 = Int.toNat v2) (rv2 : 0 ≤ v2 ∧ lc (Int.toNat v2) = (99, v2)) {xv3 : Int32} {v3 : Int} (ev3 : xv3 = Int32.ofInt v3) (rv3 : inR v3) {xv4 : Int32} {v4 : Int} (ev4 : xv4 = Int32.ofInt v4) (rv4 : inR v4) {xv8 : Option Nat} {v8 : Int} (ev8 : xv8 = oBy v8) (rv8 : v8 ≤ 631) (hR : RC w y g n m) : Rf (fun a b => RC w y a b m) (k_Tree_setClass_38 5 xv2 xv3 xv4 xv8 g) (nk_Tree_setClass_38 v2 v3 v4 v8 n) := by
  subst ev2
  subst ev3
  subst ev4
  subst ev8
  unfold k_Tree_setClass_38 nk_Tree_setClass_38
  refine rf_oy (fun h1 => ?_) (fun h1 => ?_)
  · refine v_c (ce_by hR hw (And.intro h1 rv8)).1 ?_
    refine rf_bind (f_Bytes_clear hw rfl (And.intro h1 rv8) hR) (fun g6 n4 hR5 => ?_)
    refine v_c (ce_by hR5 hw (And.intro h1 rv8)).1 ?_
    refine rf_bind (f_Bytes_addAll hw rfl (And.intro h1 rv8) rfl rv2 rfl rv3 rfl rv4 hR5) (fun g10 n8 hR9 => ?_)
    refine c_I (s := 6) hR9 (sK10 hR9 hw) rfl rfl (fun h11 => ?_)
    refine rf_ck (fun h12 => ?_)
    refine p_I (s := 6) hR9 (sK10 hR9 hw) rfl ⟨rfl, rfl, by decide⟩ (e_add rfl (e_n 1)) h12 (fun g16 n14 hR15 => ?_)
    exact rf_ok (by exact hR15)
  · exact rf_ok (by exact hR)
noncomputable def N_Tree_setClass (v1 : Int) (v2 : Int) (v3 : Int) (v4 : Int) (n : NS) : Option (NS) :=
  ix v1 120 <|
  (N_Bytes_pack_1 1000025 n).bind fun z6 =>
  (N_Node_find v1 z6 n).bind fun z10 =>
  if z10 < 0 then
    (N_Node_addAttribute v1 z6 n).bind <| u2 fun z17 n20 =>
    if z17 < 0 then
      nk_Tree_setClass_38 v2 v3 v4 (-1) n20
    else
      nk_Tree_setClass_38 v2 v3 v4 z17 n20
  else
    nk_Tree_setClass_38 v2 v3 v4 z10 n
theorem f_Tree_setClass {w y : Prop} {g : g_S} {n : NS} {m : YS} (hw : w) {xv1 : Int32} {v1 : Int} (ev1 : xv1 = Int32.ofInt v1) (rv1 : inR v1) {xv2 : Nat} {v2 : Int} (ev2 : xv2 = Int.toNat v2) (rv2 : 0 ≤ v2 ∧ lc (Int.toNat v2) = (99, v2)) {xv3 : Int32} {v3 : Int} (ev3 : xv3 = Int32.ofInt v3) (rv3 : inR v3) {xv4 : Int32} {v4 : Int} (ev4 : xv4 = Int32.ofInt v4) (rv4 : inR v4) (hR : RC w y g n m) : Rf (fun a b => RC w y a b m) (M_Tree_setClass 5 xv1 xv2 xv3 xv4 g) (N_Tree_setClass v1 v2 v3 v4 n) := by
  subst ev1
  subst ev2
  subst ev3
  subst ev4
  unfold M_Tree_setClass N_Tree_setClass
  refine c_S hR hw (sK10 hR hw) (by decide) (show srf 10 0 0 = some 6 from rfl) ?_
  refine s_S (p := aNd (_)) (L := 120) hR hw (sA20 hR hw) (by decide) (lA20 hR hw) rfl rfl rv1 (fun z1 z2 => srf20 z1 z2) (fun h2 => ?_)
  refine rf_bind (f_Bytes_pack_1 hR) (fun a8 z6 h => ?_)
  obtain ⟨rfl, r7⟩ := h
  refine v_c (ce_nd hR hw (And.intro h2.1 (Int.le_of_lt h2.2))).1 ?_
  refine rf_bind (f_Node_find hw rfl (And.intro h2.1 (Int.le_of_lt h2.2)) rfl r7 hR) (fun a12 z10 h => ?_)
  obtain ⟨rfl, r11⟩ := h
  refine rf_oy (fun h13 => ?_) (fun h13 => ?_)
  · exact fk_Tree_setClass_38 hw rfl rv2 rfl rv3 rfl rv4 (oy_s (And.intro h13 r11).1) (And.intro h13 r11).2 hR
  · refine v_c2 (ce_nd hR hw (And.intro h2.1 (Int.le_of_lt h2.2))).1 ?_
    refine rf_c2 (f_Node_addAttribute hw rfl (And.intro h2.1 (Int.le_of_lt h2.2)) rfl r7 hR) (fun a19 g22 b h => ?_)
    obtain ⟨z17, n20⟩ := b
    refine rf_v2 ?_
    obtain ⟨rfl, r18⟩ := (show RoB a19 z17 from h.1)
    have hR21 : RC w y g22 n20 m := h.2
    refine rf_oy (fun h23 => ?_) (fun h23 => ?_)
    · exact fk_Tree_setClass_38 hw rfl rv2 rfl rv3 rfl rv4 (oy_s (And.intro h23 r18).1) (And.intro h23 r18).2 hR21
    · exact fk_Tree_setClass_38 hw rfl rv2 rfl rv3 rfl rv4 oy_n (show (-1 : Int) ≤ 631 by decide) hR21
noncomputable def N_Acts_runAdd (v1 : Int) (v2 : Int) (v3 : Int) (v4 : Int) (n : NS) : Option (Int × NS) :=
  (N_Bytes_isName v2 v3 v4 n).bind fun z2 =>
  if z2 = 0 then
    some (0, n)
  else
    ix v1 120 <|
    (N_Node_isEmptyTag v1 n).bind fun z12 =>
    if z12 = 0 then
      (N_Tree_hasRoom v1 n).bind fun z18 =>
      if z18 = 0 then
        some (1, n)
      else
        (N_Bytes_pack v2 v3 v4 n).bind fun z24 =>
        (N_Tree_tagOf z24 n).bind fun z30 =>
        (N_Tree_grow v1 z30 z24 n).bind <| u2 fun z34 n37 =>
        some (1, n37)
    else
      some (1, n)
theorem f_Acts_runAdd {w y : Prop} {g : g_S} {n : NS} {m : YS} (hw : w) {xv1 : Int32} {v1 : Int} (ev1 : xv1 = Int32.ofInt v1) (rv1 : inR v1) {xv2 : Nat} {v2 : Int} (ev2 : xv2 = Int.toNat v2) (rv2 : 0 ≤ v2 ∧ lc (Int.toNat v2) = (99, v2)) {xv3 : Int32} {v3 : Int} (ev3 : xv3 = Int32.ofInt v3) (rv3 : inR v3) {xv4 : Int32} {v4 : Int} (ev4 : xv4 = Int32.ofInt v4) (rv4 : inR v4) (hR : RC w y g n m) : Rf (fun a b => RZ a.1 b.1 ∧ RC w y a.2 b.2 m) (M_Acts_runAdd 1789 xv1 xv2 xv3 xv4 g) (N_Acts_runAdd v1 v2 v3 v4 n) := by
  subst ev1
  subst ev2
  subst ev3
  subst ev4
  unfold M_Acts_runAdd N_Acts_runAdd
  refine rf_bind (f_Bytes_isName rfl rv2 rfl rv3 rfl rv4 hR) (fun a4 z2 h => ?_)
  obtain ⟨rfl, r3⟩ := h
  refine rf_eq rfl (e_n 0) (inZ.r r3) (show inR 0 by decide) ?_ ?_
  · exact rf_ok (by exact ⟨⟨(e_n 0), (.inl rfl)⟩, hR⟩)
  · refine c_S hR hw (sK0 hR hw) (by decide) (show srf 0 0 0 = some 5 from rfl) ?_
    refine c_S hR hw (sK10 hR hw) (by decide) (show srf 10 0 0 = some 6 from rfl) ?_
    refine s_S (p := aNd (_)) (L := 120) hR hw (sA20 hR hw) (by decide) (lA20 hR hw) rfl rfl rv1 (fun z1 z2 => srf20 z1 z2) (fun h9 => ?_)
    refine v_c (ce_nd hR hw (And.intro h9.1 (Int.le_of_lt h9.2))).1 ?_
    refine rf_bind (f_Node_isEmptyTag hw rfl (And.intro h9.1 (Int.le_of_lt h9.2)) hR) (fun a14 z12 h => ?_)
    obtain ⟨rfl, r13⟩ := h
    refine rf_eq rfl (e_n 0) (inZ.r r13) (show inR 0 by decide) ?_ ?_
    · refine c_S hR hw (sK0 hR hw) (by decide) (show srf 0 0 0 = some 5 from rfl) ?_
      refine v_c (sK10 hR hw).1 ?_
      refine rf_bind (f_Tree_hasRoom hw rfl rv1 hR) (fun a20 z18 h => ?_)
      obtain ⟨rfl, r19⟩ := h
      refine rf_eq rfl (e_n 0) (inZ.r r19) (show inR 0 by decide) ?_ ?_
      · exact rf_ok (by exact ⟨⟨(e_n 1), (.inr rfl)⟩, hR⟩)
      · refine rf_bind (f_Bytes_pack rfl rv2 rfl rv3 rfl rv4 hR) (fun a26 z24 h => ?_)
        obtain ⟨rfl, r25⟩ := h
        refine c_S hR hw (sK0 hR hw) (by decide) (show srf 0 0 0 = some 5 from rfl) ?_
        refine c_S hR hw (sK0 hR hw) (by decide) (show srf 0 0 0 = some 5 from rfl) ?_
        refine v_c (sK10 hR hw).1 ?_
        refine rf_bind (f_Tree_tagOf hw rfl r25 hR) (fun a32 z30 h => ?_)
        obtain ⟨rfl, r31⟩ := h
        refine v_c2 (sK10 hR hw).1 ?_
        refine rf_c2 (f_Tree_grow hw rfl rv1 rfl r31 rfl r25 hR) (fun a36 g39 b h => ?_)
        obtain ⟨z34, n37⟩ := b
        refine rf_v2 ?_
        obtain ⟨rfl, r35⟩ := (show RI a36 z34 from h.1)
        have hR38 : RC w y g39 n37 m := h.2
        exact rf_ok (by exact ⟨⟨(e_n 1), (.inr rfl)⟩, hR38⟩)
    · exact rf_ok (by exact ⟨⟨(e_n 1), (.inr rfl)⟩, hR⟩)
noncomputable def N_Net_readStore (v1 : Int) (n : NS) : Option (Int) :=
  ty n 1582 101 <|
  (N_Net_rowOf 26 (n 6 0 8) (n 99 1582 1) v1 n).bind fun z8 =>
  if z8 < (n 6 0 8) then
    ck (3 * z8) <|
    ck ((3 * z8) + 2) <|
    ix ((3 * z8) + 2) 60 <|
    some (n 26 0 ((3 * z8) + 2))
  else
    some 0
theorem f_Net_readStore {w y : Prop} {g : g_S} {n : NS} {m : YS} (hw : w) {xv1 : Int64} {v1 : Int} (ev1 : xv1 = Int64.ofInt v1) (rv1 : inL v1) (hR : RC w y g n m) : Rf (fun a b => RJ a b) (M_Net_readStore 1569 xv1 g) (N_Net_readStore v1 n) := by
  subst ev1
  unfold M_Net_readStore N_Net_readStore
  refine c_S hR hw (sK6 hR hw) (by decide) (show srf 6 0 7 = some 1577 from rfl) ?_
  refine c_I (s := 8) hR (sK6 hR hw) rfl rfl (fun h2 => ?_)
  refine c_S hR hw (sK6 hR hw) (by decide) (show srf 6 0 13 = some 1582 from rfl) ?_
  refine rf_ty (t := 101) dS1582.1 hR (by decide) (fun h5 h6 => ?_)
  refine c_L (s := 1) hR (ce_dy hR dS1582 h6 (by decide)) rfl rfl (fun h4 => ?_)
  refine rf_bind (f_Net_rowOf hw rfl (by decide) rfl h2 rfl h4 rfl rv1 hR) (fun a10 z8 h => ?_)
  obtain ⟨rfl, r9⟩ := h
  refine c_I (s := 8) hR (sK6 hR hw) rfl rfl (fun h11 => ?_)
  refine rf_lt rfl rfl r9 h11 ?_ ?_
  · refine c_S hR hw (sK6 hR hw) (by decide) (show srf 6 0 7 = some 1577 from rfl) ?_
    refine rf_ck (fun h14 => ?_)
    refine rf_ck (fun h15 => ?_)
    refine s_L (L := 60) hR (sA26 hR hw) (lA26 hR hw) rfl (e_add (e_mul (e_n 3) rfl) (e_n 2)) h15 (fun h16 h17 => ?_)
    exact rf_ok (by exact ⟨rfl, h17⟩)
  · exact rf_ok (by exact ⟨(f_n 0), (show inL 0 by decide)⟩)
noncomputable def N_Acts_lookUp (v1 : Int) (v2 : Int) (v3 : Int) (n : NS) : Option (Int × NS) :=
  (N_Bytes_isName v1 v2 v3 n).bind fun z2 =>
  if z2 = 0 then
    some (0, n)
  else
    (N_Bytes_clear 610 n).bind fun n9 =>
    (N_Bytes_pack v1 v2 v3 n9).bind fun z15 =>
    (N_Net_readStore z15 n9).bind fun z19 =>
    (N_Bytes_addPacked 610 z19 n9).bind fun n23 =>
    some (1, n23)
theorem f_Acts_lookUp {w y : Prop} {g : g_S} {n : NS} {m : YS} (hw : w) {xv1 : Nat} {v1 : Int} (ev1 : xv1 = Int.toNat v1) (rv1 : 0 ≤ v1 ∧ lc (Int.toNat v1) = (99, v1)) {xv2 : Int32} {v2 : Int} (ev2 : xv2 = Int32.ofInt v2) (rv2 : inR v2) {xv3 : Int32} {v3 : Int} (ev3 : xv3 = Int32.ofInt v3) (rv3 : inR v3) (hR : RC w y g n m) : Rf (fun a b => RZ a.1 b.1 ∧ RC w y a.2 b.2 m) (M_Acts_lookUp 1789 xv1 xv2 xv3 g) (N_Acts_lookUp v1 v2 v3 n) := by
  subst ev1
  subst ev2
  subst ev3
  unfold M_Acts_lookUp N_Acts_lookUp
  refine rf_bind (f_Bytes_isName rfl rv1 rfl rv2 rfl rv3 hR) (fun a4 z2 h => ?_)
  obtain ⟨rfl, r3⟩ := h
  refine rf_eq rfl (e_n 0) (inZ.r r3) (show inR 0 by decide) ?_ ?_
  · exact rf_ok (by exact ⟨⟨(e_n 0), (.inl rfl)⟩, hR⟩)
  · refine c_S hR hw (sK0 hR hw) (by decide) (show srf 0 0 19 = some 1795 from rfl) ?_
    refine v_c (bS610 ▸ (ce_by hR hw (by decide))).1 ?_
    refine rf_bind (f_Bytes_clear hw bS610.symm (by decide) hR) (fun g11 n9 hR10 => ?_)
    refine c_S hR10 hw (sK0 hR10 hw) (by decide) (show srf 0 0 19 = some 1795 from rfl) ?_
    refine c_S hR10 hw (sK0 hR10 hw) (by decide) (show srf 0 0 1 = some 1569 from rfl) ?_
    refine rf_bind (f_Bytes_pack rfl rv1 rfl rv2 rfl rv3 hR10) (fun a17 z15 h => ?_)
    obtain ⟨rfl, r16⟩ := h
    refine v_c (sK6 hR10 hw).1 ?_
    refine rf_bind (f_Net_readStore hw rfl r16 hR10) (fun a21 z19 h => ?_)
    obtain ⟨rfl, r20⟩ := h
    refine v_c (bS610 ▸ (ce_by hR10 hw (by decide))).1 ?_
    refine rf_bind (f_Bytes_addPacked hw bS610.symm (by decide) rfl r20 hR10) (fun g25 n23 hR24 => ?_)
    exact rf_ok (by exact ⟨⟨(e_n 1), (.inr rfl)⟩, hR24⟩)
noncomputable def nk_Acts_runOnNode_241 (v2 : Int) (v4 : Int) (v5 : Int) (v6 : Int) (n : NS) : Option (Int × NS) :=
  ck (v5 + 1) <|
  (N_Acts_lookUp v2 (v5 + 1) v4 n).bind <| u2 fun z3 n6 =>
  if z3 = 0 then
    some (0, n6)
  else
    nn (n6 4 610 1) <|
    (N_Tree_setText v6 (n6 4 610 1) 0 (n6 4 610 2) n6).bind fun n17 =>
    some (1, n17)
theorem fk_Acts_runOnNode_241 {w y : Prop} {g : g_S} {n : NS} {m : YS} (hw : w) {xv2 : Nat} {v2 : Int} (ev2 : xv2 = Int.toNat v2) (rv2 : 0 ≤ v2 ∧ lc (Int.toNat v2) = (99, v2)) {xv4 : Int32} {v4 : Int} (ev4 : xv4 = Int32.ofInt v4) (rv4 : inR v4) {xv5 : Int32} {v5 : Int} (ev5 : xv5 = Int32.ofInt v5) (rv5 : inR v5) {xv6 : Int32} {v6 : Int} (ev6 : xv6 = Int32.ofInt v6) (rv6 : inR v6) (hR : RC w y g n m) : Rf (fun a b => RZ a.1 b.1 ∧ RC w y a.2 b.2 m) (k_Acts_runOnNode_241 1789 xv2 xv4 xv5 xv6 g) (nk_Acts_runOnNode_241 v2 v4 v5 v6 n) := by
  subst ev2
  subst ev4
  subst ev5
  subst ev6
  unfold k_Acts_runOnNode_241 nk_Acts_runOnNode_241
  refine rf_ck (fun h1 => ?_)
  refine v_c2 (sK0 hR hw).1 ?_
  refine rf_c2 (f_Acts_lookUp hw rfl rv2 (e_add rfl (e_n 1)) h1 rfl rv4 hR) (fun a5 g8 b h => ?_)
  obtain ⟨z3, n6⟩ := b
  refine rf_v2 ?_
  obtain ⟨rfl, r4⟩ := (show RZ a5 z3 from h.1)
  have hR7 : RC w y g8 n6 m := h.2
  refine rf_eq rfl (e_n 0) (inZ.r r4) (show inR 0 by decide) ?_ ?_
  · exact rf_ok (by exact ⟨⟨(e_n 0), (.inl rfl)⟩, hR7⟩)
  · refine c_S hR7 hw (sK0 hR7 hw) (by decide) (show srf 0 0 0 = some 5 from rfl) ?_
    refine c_S hR7 hw (sK0 hR7 hw) (by decide) (show srf 0 0 19 = some 1795 from rfl) ?_
    refine c_D (s := 1) hR7 (bS610 ▸ (ce_by hR7 hw (by decide))) rfl rfl rfl (fun h13 => ?_)
    refine c_S hR7 hw (sK0 hR7 hw) (by decide) (show srf 0 0 19 = some 1795 from rfl) ?_
    refine c_I (s := 2) hR7 (bS610 ▸ (ce_by hR7 hw (by decide))) rfl rfl (fun h15 => ?_)
    refine v_c (sK10 hR7 hw).1 ?_
    refine rf_bind (f_Tree_setText hw rfl rv6 rfl h13 (e_n 0) (show inR 0 by decide) rfl h15 hR7) (fun g19 n17 hR18 => ?_)
    exact rf_ok (by exact ⟨⟨(e_n 1), (.inr rfl)⟩, hR18⟩)
noncomputable def nk_Acts_runOnNode_222 (w0 : Int) (n : NS) : Option (Int × NS) :=
  st (nw n 0 0 17 w0) fun n2 =>
  some (1, n2)
theorem fk_Acts_runOnNode_222 {w y : Prop} {g : g_S} {n : NS} {m : YS} (hw : w) {xw0 : Int32} {w0 : Int} (ew0 : xw0 = Int32.ofInt w0) (rw0 : inR w0) (hR : RC w y g n m) : Rf (fun a b => RZ a.1 b.1 ∧ RC w y a.2 b.2 m) (k_Acts_runOnNode_222 xw0 1789 g) (nk_Acts_runOnNode_222 w0 n) := by
  subst ew0
  unfold k_Acts_runOnNode_222 nk_Acts_runOnNode_222
  refine p_I (s := 17) hR (sK0 hR hw) rfl ⟨rfl, rfl, by decide⟩ rfl rw0 (fun g4 n2 hR3 => ?_)
  exact rf_ok (by exact ⟨⟨(e_n 1), (.inr rfl)⟩, hR3⟩)
noncomputable def nk_Acts_runOnNode_48 (v4 : Int) (v5 : Int) (n : NS) : Option (Int × NS) :=
  if v5 = v4 then
    some (1, n)
  else
    some (0, n)
theorem fk_Acts_runOnNode_48 {w y : Prop} {g : g_S} {n : NS} {m : YS} (hw : w) {xv4 : Int32} {v4 : Int} (ev4 : xv4 = Int32.ofInt v4) (rv4 : inR v4) {xv5 : Int32} {v5 : Int} (ev5 : xv5 = Int32.ofInt v5) (rv5 : inR v5) (hR : RC w y g n m) : Rf (fun a b => RZ a.1 b.1 ∧ RC w y a.2 b.2 m) (k_Acts_runOnNode_48 xv4 xv5 g) (nk_Acts_runOnNode_48 v4 v5 n) := by
  subst ev4
  subst ev5
  unfold k_Acts_runOnNode_48 nk_Acts_runOnNode_48
  refine rf_eq rfl rfl rv5 rv4 ?_ ?_
  · exact rf_ok (by exact ⟨⟨(e_n 1), (.inr rfl)⟩, hR⟩)
  · exact rf_ok (by exact ⟨⟨(e_n 0), (.inl rfl)⟩, hR⟩)
noncomputable def N_Acts_runOnNode (v1 : Int) (v2 : Int) (v3 : Int) (v4 : Int) (n : NS) : Option (Int × NS) :=
  (N_Acts_blankAt v2 v3 v4 n).bind fun z2 =>
  (N_Acts_nodeCalled v2 v3 z2 n).bind <| u2 fun z6 n9 =>
  if z6 = (-1) then
    some (0, n9)
  else
    if v1 = 3 then
      if z2 = v4 then
        (N_Tree_remove z6 n9).bind fun n18 =>
        nk_Acts_runOnNode_48 v4 z2 n18
      else
        nk_Acts_runOnNode_48 v4 z2 n9
    else
      if z2 = v4 then
        some (0, n9)
      else
        if v1 = 0 then
          ck (z2 + 1) <|
          (N_Tree_setText z6 v2 (z2 + 1) v4 n9).bind fun n27 =>
          some (1, n27)
        else if v1 = 1 then
          ck (z2 + 1) <|
          (N_Tree_setClass z6 v2 (z2 + 1) v4 n9).bind fun n34 =>
          some (1, n34)
        else if v1 = 2 then
          ck (z2 + 1) <|
          (N_Acts_runAdd z6 v2 (z2 + 1) v4 n9).bind <| u2 fun z40 n43 =>
          some (z40, n43)
        else if v1 = 3 then
          nk_Acts_runOnNode_241 v2 v4 z2 z6 n9
        else if v1 = 4 then
          ix z6 120 <|
          if (n9 7 z6 0) = 13 then
            ix z6 120 <|
            ck (z2 + 1) <|
            (N_Node_setValue z6 v2 (z2 + 1) v4 n9).bind fun n59 =>
            some (1, n59)
          else
            some (1, n9)
        else if v1 = 5 then
          nk_Acts_runOnNode_241 v2 v4 z2 z6 n9
        else if v1 = 6 then
          ck (z2 + 1) <|
          ty n9 1584 101 <|
          (N_Address_read 1584 v2 (z2 + 1) v4 1582 n9).bind <| u2 fun z72 n75 =>
          if z72 = 0 then
            nk_Acts_runOnNode_222 (-1) n75
          else
            nk_Acts_runOnNode_222 z6 n75
        else
          nk_Acts_runOnNode_241 v2 v4 z2 z6 n9
theorem f_Acts_runOnNode {w y : Prop} {g : g_S} {n : NS} {m : YS} (hw : w) {xv1 : Int32} {v1 : Int} (ev1 : xv1 = Int32.ofInt v1) (rv1 : inR v1) {xv2 : Nat} {v2 : Int} (ev2 : xv2 = Int.toNat v2) (rv2 : 0 ≤ v2 ∧ lc (Int.toNat v2) = (99, v2)) {xv3 : Int32} {v3 : Int} (ev3 : xv3 = Int32.ofInt v3) (rv3 : inR v3) {xv4 : Int32} {v4 : Int} (ev4 : xv4 = Int32.ofInt v4) (rv4 : inR v4) (hR : RC w y g n m) : Rf (fun a b => RZ a.1 b.1 ∧ RC w y a.2 b.2 m) (M_Acts_runOnNode 1789 xv1 xv2 xv3 xv4 g) (N_Acts_runOnNode v1 v2 v3 v4 n) := by
  subst ev1
  subst ev2
  subst ev3
  subst ev4
  unfold M_Acts_runOnNode N_Acts_runOnNode
  refine rf_bind (f_Acts_blankAt rfl rv2 rfl rv3 rfl rv4 hR) (fun a4 z2 h => ?_)
  obtain ⟨rfl, r3⟩ := h
  refine v_c2 (sK0 hR hw).1 ?_
  refine rf_c2 (f_Acts_nodeCalled hw rfl rv2 rfl rv3 rfl r3 hR) (fun a8 g11 b h => ?_)
  obtain ⟨z6, n9⟩ := b
  refine rf_v2 ?_
  obtain ⟨rfl, r7⟩ := (show RI a8 z6 from h.1)
  have hR10 : RC w y g11 n9 m := h.2
  refine rf_eq rfl (e_m 1) r7 (show inR (-1) by decide) ?_ ?_
  · exact rf_ok (by exact ⟨⟨(e_n 0), (.inl rfl)⟩, hR10⟩)
  · refine rf_eq rfl (e_n 3) rv1 (show inR 3 by decide) ?_ ?_
    · refine rf_eq rfl rfl r3 rv4 ?_ ?_
      · refine c_S hR10 hw (sK0 hR10 hw) (by decide) (show srf 0 0 0 = some 5 from rfl) ?_
        refine v_c (sK10 hR10 hw).1 ?_
        refine rf_bind (f_Tree_remove hw rfl r7 hR10) (fun g20 n18 hR19 => ?_)
        exact fk_Acts_runOnNode_48 hw rfl rv4 rfl r3 hR19
      · exact fk_Acts_runOnNode_48 hw rfl rv4 rfl r3 hR10
    · refine rf_eq rfl rfl r3 rv4 ?_ ?_
      · exact rf_ok (by exact ⟨⟨(e_n 0), (.inl rfl)⟩, hR10⟩)
      · refine rf_eq rfl (e_n 0) rv1 (show inR 0 by decide) ?_ ?_
        · refine c_S hR10 hw (sK0 hR10 hw) (by decide) (show srf 0 0 0 = some 5 from rfl) ?_
          refine rf_ck (fun h25 => ?_)
          refine v_c (sK10 hR10 hw).1 ?_
          refine rf_bind (f_Tree_setText hw rfl r7 rfl rv2 (e_add rfl (e_n 1)) h25 rfl rv4 hR10) (fun g29 n27 hR28 => ?_)
          exact rf_ok (by exact ⟨⟨(e_n 1), (.inr rfl)⟩, hR28⟩)
        refine rf_eq rfl (e_n 1) rv1 (show inR 1 by decide) ?_ ?_
        · refine c_S hR10 hw (sK0 hR10 hw) (by decide) (show srf 0 0 0 = some 5 from rfl) ?_
          refine rf_ck (fun h32 => ?_)
          refine v_c (sK10 hR10 hw).1 ?_
          refine rf_bind (f_Tree_setClass hw rfl r7 rfl rv2 (e_add rfl (e_n 1)) h32 rfl rv4 hR10) (fun g36 n34 hR35 => ?_)
          exact rf_ok (by exact ⟨⟨(e_n 1), (.inr rfl)⟩, hR35⟩)
        refine rf_eq rfl (e_n 2) rv1 (show inR 2 by decide) ?_ ?_
        · refine rf_ck (fun h38 => ?_)
          refine v_c2 (sK0 hR10 hw).1 ?_
          refine rf_c2 (f_Acts_runAdd hw rfl r7 rfl rv2 (e_add rfl (e_n 1)) h38 rfl rv4 hR10) (fun a42 g45 b h => ?_)
          obtain ⟨z40, n43⟩ := b
          refine rf_v2 ?_
          obtain ⟨rfl, r41⟩ := (show RZ a42 z40 from h.1)
          have hR44 : RC w y g45 n43 m := h.2
          refine rf_tz rfl r41 ?_
          exact rf_ok (by exact ⟨⟨rfl, r41⟩, hR44⟩)
        refine rf_eq rfl (e_n 3) rv1 (show inR 3 by decide) ?_ ?_
        · exact fk_Acts_runOnNode_241 hw rfl rv2 rfl rv4 rfl r3 rfl r7 hR10
        refine rf_eq rfl (e_n 4) rv1 (show inR 4 by decide) ?_ ?_
        · refine c_S hR10 hw (sK0 hR10 hw) (by decide) (show srf 0 0 0 = some 5 from rfl) ?_
          refine c_S hR10 hw (sK10 hR10 hw) (by decide) (show srf 10 0 0 = some 6 from rfl) ?_
          refine s_S (p := aNd (_)) (L := 120) hR10 hw (sA20 hR10 hw) (by decide) (lA20 hR10 hw) rfl rfl r7 (fun z1 z2 => srf20 z1 z2) (fun h49 => ?_)
          refine c_I (s := 0) hR10 (ce_nd hR10 hw (And.intro h49.1 (Int.le_of_lt h49.2))) rfl rfl (fun h51 => ?_)
          refine rf_eq rfl (e_n 13) h51 (show inR 13 by decide) ?_ ?_
          · refine c_S hR10 hw (sK0 hR10 hw) (by decide) (show srf 0 0 0 = some 5 from rfl) ?_
            refine c_S hR10 hw (sK10 hR10 hw) (by decide) (show srf 10 0 0 = some 6 from rfl) ?_
            refine s_S (p := aNd (_)) (L := 120) hR10 hw (sA20 hR10 hw) (by decide) (lA20 hR10 hw) rfl rfl r7 (fun z1 z2 => srf20 z1 z2) (fun h55 => ?_)
            refine rf_ck (fun h57 => ?_)
            refine v_c (ce_nd hR10 hw (And.intro h55.1 (Int.le_of_lt h55.2))).1 ?_
            refine rf_bind (f_Node_setValue hw rfl (And.intro h55.1 (Int.le_of_lt h55.2)) rfl rv2 (e_add rfl (e_n 1)) h57 rfl rv4 hR10) (fun g61 n59 hR60 => ?_)
            exact rf_ok (by exact ⟨⟨(e_n 1), (.inr rfl)⟩, hR60⟩)
          · exact rf_ok (by exact ⟨⟨(e_n 1), (.inr rfl)⟩, hR10⟩)
        refine rf_eq rfl (e_n 5) rv1 (show inR 5 by decide) ?_ ?_
        · exact fk_Acts_runOnNode_241 hw rfl rv2 rfl rv4 rfl r3 rfl r7 hR10
        refine rf_eq rfl (e_n 6) rv1 (show inR 6 by decide) ?_ ?_
        · refine c_S hR10 hw (sK0 hR10 hw) (by decide) (show srf 0 0 1 = some 1569 from rfl) ?_
          refine c_S hR10 hw (sK6 hR10 hw) (by decide) (show srf 6 0 14 = some 1584 from rfl) ?_
          refine rf_ck (fun h66 => ?_)
          refine c_S hR10 hw (sK0 hR10 hw) (by decide) (show srf 0 0 1 = some 1569 from rfl) ?_
          refine c_S hR10 hw (sK6 hR10 hw) (by decide) (show srf 6 0 13 = some 1582 from rfl) ?_
          refine rf_ty (t := 101) dS1584.1 hR10 (by decide) (fun h70 h71 => ?_)
          refine v_c2 h70 ?_
          refine rf_c2 (f_Address_read rfl dS1584 rfl rv2 (e_add rfl (e_n 1)) h66 rfl rv4 rfl dS1582 hR10) (fun a74 g77 b h => ?_)
          obtain ⟨z72, n75⟩ := b
          refine rf_v2 ?_
          obtain ⟨rfl, r73⟩ := (show RZ a74 z72 from h.1)
          have hR76 : RC w y g77 n75 m := h.2
          refine rf_eq rfl (e_n 0) (inZ.r r73) (show inR 0 by decide) ?_ ?_
          · exact fk_Acts_runOnNode_222 hw (e_m 1) (show inR (-1) by decide) hR76
          · exact fk_Acts_runOnNode_222 hw rfl r7 hR76
        exact fk_Acts_runOnNode_241 hw rfl rv2 rfl rv4 rfl r3 rfl r7 hR10
noncomputable def nk_Acts_runStep_154 (v1 : Int) (v3 : Int) (v4 : Int) (v5 : Int) (n : NS) : Option (Int × NS) :=
  ck (v4 + 1) <|
  (N_Acts_runOnNode v5 v1 (v4 + 1) v3 n).bind <| u2 fun z3 n6 =>
  some (z3, n6)
theorem fk_Acts_runStep_154 {w y : Prop} {g : g_S} {n : NS} {m : YS} (hw : w) {xv1 : Nat} {v1 : Int} (ev1 : xv1 = Int.toNat v1) (rv1 : 0 ≤ v1 ∧ lc (Int.toNat v1) = (99, v1)) {xv3 : Int32} {v3 : Int} (ev3 : xv3 = Int32.ofInt v3) (rv3 : inR v3) {xv4 : Int32} {v4 : Int} (ev4 : xv4 = Int32.ofInt v4) (rv4 : inR v4) {xv5 : Int32} {v5 : Int} (ev5 : xv5 = Int32.ofInt v5) (rv5 : inR v5) (hR : RC w y g n m) : Rf (fun a b => RZ a.1 b.1 ∧ RC w y a.2 b.2 m) (k_Acts_runStep_154 1789 xv1 xv3 xv4 xv5 g) (nk_Acts_runStep_154 v1 v3 v4 v5 n) := by
  subst ev1
  subst ev3
  subst ev4
  subst ev5
  unfold k_Acts_runStep_154 nk_Acts_runStep_154
  refine rf_ck (fun h1 => ?_)
  refine v_c2 (sK0 hR hw).1 ?_
  refine rf_c2 (f_Acts_runOnNode hw rfl rv5 rfl rv1 (e_add rfl (e_n 1)) h1 rfl rv3 hR) (fun a5 g8 b h => ?_)
  obtain ⟨z3, n6⟩ := b
  refine rf_v2 ?_
  obtain ⟨rfl, r4⟩ := (show RZ a5 z3 from h.1)
  have hR7 : RC w y g8 n6 m := h.2
  refine rf_tz rfl r4 ?_
  exact rf_ok (by exact ⟨⟨rfl, r4⟩, hR7⟩)
noncomputable def nk_Acts_runStep_52 (v3 : Int) (v4 : Int) (n : NS) : Option (Int × NS) :=
  if v4 = v3 then
    some (1, n)
  else
    some (0, n)
theorem fk_Acts_runStep_52 {w y : Prop} {g : g_S} {n : NS} {m : YS} (hw : w) {xv3 : Int32} {v3 : Int} (ev3 : xv3 = Int32.ofInt v3) (rv3 : inR v3) {xv4 : Int32} {v4 : Int} (ev4 : xv4 = Int32.ofInt v4) (rv4 : inR v4) (hR : RC w y g n m) : Rf (fun a b => RZ a.1 b.1 ∧ RC w y a.2 b.2 m) (k_Acts_runStep_52 xv3 xv4 g) (nk_Acts_runStep_52 v3 v4 n) := by
  subst ev3
  subst ev4
  unfold k_Acts_runStep_52 nk_Acts_runStep_52
  refine rf_eq rfl rfl rv4 rv3 ?_ ?_
  · exact rf_ok (by exact ⟨⟨(e_n 1), (.inr rfl)⟩, hR⟩)
  · exact rf_ok (by exact ⟨⟨(e_n 0), (.inl rfl)⟩, hR⟩)
noncomputable def N_Acts_runStep (v1 : Int) (v2 : Int) (v3 : Int) (n : NS) : Option (Int × NS) :=
  (N_Acts_blankAt v1 v2 v3 n).bind fun z2 =>
  (N_Bytes_wordPlace 1000022 v1 v2 z2 n).bind fun z7 =>
  if z7 = 10 then
    if z2 = v3 then
      if (n 0 0 18) = 0 then
        nk_Acts_runStep_52 v3 z2 n
      else
        st (nw n 0 0 18 0) fun n15 =>
        st (nw n15 0 0 16 (n15 0 0 15)) fun n20 =>
        nk_Acts_runStep_52 v3 z2 n20
    else
      nk_Acts_runStep_52 v3 z2 n
  else
    if z7 = (-1) then
      some (0, n)
    else
      if z2 = v3 then
        some (0, n)
      else
        if z7 = 5 then
          ck (z2 + 1) <|
          (N_Net_aim v1 (z2 + 1) v3 n).bind <| u2 fun z31 n34 =>
          some (1, n34)
        else if z7 = 6 then
          nk_Acts_runStep_154 v1 v3 z2 z7 n
        else if z7 = 7 then
          ck (z2 + 1) <|
          (N_Acts_runPut v1 (z2 + 1) v3 n).bind <| u2 fun z40 n43 =>
          some (z40, n43)
        else if z7 = 8 then
          nk_Acts_runStep_154 v1 v3 z2 z7 n
        else if z7 = 9 then
          ck (z2 + 1) <|
          (N_Acts_runWait v1 (z2 + 1) v3 n).bind <| u2 fun z49 n52 =>
          some (z49, n52)
        else
          nk_Acts_runStep_154 v1 v3 z2 z7 n
theorem f_Acts_runStep {w y : Prop} {g : g_S} {n : NS} {m : YS} (hw : w) {xv1 : Nat} {v1 : Int} (ev1 : xv1 = Int.toNat v1) (rv1 : 0 ≤ v1 ∧ lc (Int.toNat v1) = (99, v1)) {xv2 : Int32} {v2 : Int} (ev2 : xv2 = Int32.ofInt v2) (rv2 : inR v2) {xv3 : Int32} {v3 : Int} (ev3 : xv3 = Int32.ofInt v3) (rv3 : inR v3) (hR : RC w y g n m) : Rf (fun a b => RZ a.1 b.1 ∧ RC w y a.2 b.2 m) (M_Acts_runStep 1789 xv1 xv2 xv3 g) (N_Acts_runStep v1 v2 v3 n) := by
  subst ev1
  subst ev2
  subst ev3
  unfold M_Acts_runStep N_Acts_runStep
  refine rf_bind (f_Acts_blankAt rfl rv1 rfl rv2 rfl rv3 hR) (fun a4 z2 h => ?_)
  obtain ⟨rfl, r3⟩ := h
  refine rf_bind (f_Bytes_wordPlace rfl rv1 rfl rv2 rfl r3 hR) (fun a9 z7 h => ?_)
  obtain ⟨rfl, r8⟩ := h
  refine rf_eq rfl (e_n 10) r8 (show inR 10 by decide) ?_ ?_
  · refine rf_eq rfl rfl r3 rv3 ?_ ?_
    · refine c_I (s := 18) hR (sK0 hR hw) rfl rfl (fun h12 => ?_)
      refine rf_eq rfl (e_n 0) h12 (show inR 0 by decide) ?_ ?_
      · exact fk_Acts_runStep_52 hw rfl rv3 rfl r3 hR
      · refine p_I (s := 18) hR (sK0 hR hw) rfl ⟨rfl, rfl, by decide⟩ (e_n 0) (show inR 0 by decide) (fun g17 n15 hR16 => ?_)
        refine c_I (s := 15) hR16 (sK0 hR16 hw) rfl rfl (fun h18 => ?_)
        refine p_I (s := 16) hR16 (sK0 hR16 hw) rfl ⟨rfl, rfl, by decide⟩ rfl h18 (fun g22 n20 hR21 => ?_)
        exact fk_Acts_runStep_52 hw rfl rv3 rfl r3 hR21
    · exact fk_Acts_runStep_52 hw rfl rv3 rfl r3 hR
  · refine rf_eq rfl (e_m 1) r8 (show inR (-1) by decide) ?_ ?_
    · exact rf_ok (by exact ⟨⟨(e_n 0), (.inl rfl)⟩, hR⟩)
    · refine rf_eq rfl rfl r3 rv3 ?_ ?_
      · exact rf_ok (by exact ⟨⟨(e_n 0), (.inl rfl)⟩, hR⟩)
      · refine rf_eq rfl (e_n 5) r8 (show inR 5 by decide) ?_ ?_
        · refine c_S hR hw (sK0 hR hw) (by decide) (show srf 0 0 1 = some 1569 from rfl) ?_
          refine rf_ck (fun h29 => ?_)
          refine v_c2 (sK6 hR hw).1 ?_
          refine rf_c2 (f_Net_aim hw rfl rv1 (e_add rfl (e_n 1)) h29 rfl rv3 hR) (fun a33 g36 b h => ?_)
          obtain ⟨z31, n34⟩ := b
          refine rf_v2 ?_
          obtain ⟨rfl, r32⟩ := (show RZ a33 z31 from h.1)
          have hR35 : RC w y g36 n34 m := h.2
          exact rf_ok (by exact ⟨⟨(e_n 1), (.inr rfl)⟩, hR35⟩)
        refine rf_eq rfl (e_n 6) r8 (show inR 6 by decide) ?_ ?_
        · exact fk_Acts_runStep_154 hw rfl rv1 rfl rv3 rfl r3 rfl r8 hR
        refine rf_eq rfl (e_n 7) r8 (show inR 7 by decide) ?_ ?_
        · refine rf_ck (fun h38 => ?_)
          refine v_c2 (sK0 hR hw).1 ?_
          refine rf_c2 (f_Acts_runPut hw rfl rv1 (e_add rfl (e_n 1)) h38 rfl rv3 hR) (fun a42 g45 b h => ?_)
          obtain ⟨z40, n43⟩ := b
          refine rf_v2 ?_
          obtain ⟨rfl, r41⟩ := (show RZ a42 z40 from h.1)
          have hR44 : RC w y g45 n43 m := h.2
          refine rf_tz rfl r41 ?_
          exact rf_ok (by exact ⟨⟨rfl, r41⟩, hR44⟩)
        refine rf_eq rfl (e_n 8) r8 (show inR 8 by decide) ?_ ?_
        · exact fk_Acts_runStep_154 hw rfl rv1 rfl rv3 rfl r3 rfl r8 hR
        refine rf_eq rfl (e_n 9) r8 (show inR 9 by decide) ?_ ?_
        · refine rf_ck (fun h47 => ?_)
          refine v_c2 (sK0 hR hw).1 ?_
          refine rf_c2 (f_Acts_runWait hw rfl rv1 (e_add rfl (e_n 1)) h47 rfl rv3 hR) (fun a51 g54 b h => ?_)
          obtain ⟨z49, n52⟩ := b
          refine rf_v2 ?_
          obtain ⟨rfl, r50⟩ := (show RZ a51 z49 from h.1)
          have hR53 : RC w y g54 n52 m := h.2
          refine rf_tz rfl r50 ?_
          exact rf_ok (by exact ⟨⟨rfl, r50⟩, hR53⟩)
        exact fk_Acts_runStep_154 hw rfl rv1 rfl rv3 rfl r3 rfl r8 hR
noncomputable def nb_Acts_runNext_48 (v2 : Int) (v1 : Int) (n : NS) : Option ((Int) ⊕ (Int)) :=
  if v1 < v2 then
    nn (n 4 609 1) <|
    dx n (n 4 609 1) 1 v1 <|
    (N_Bytes_isBlank (n 99 (n 4 609 1) v1) n).bind fun z7 =>
    if z7 = 0 then
      some (.inr v1)
    else
      ck (v1 + 1) <|
      some (.inl (v1 + 1))
  else
    some (.inr v1)
theorem fb_Acts_runNext_48 {w y : Prop} {g : g_S} {n : NS} {m : YS} (hw : w) {xv2 : Int32} {v2 : Int} (ev2 : xv2 = Int32.ofInt v2) (rv2 : inR v2) {xv1 : Int32} {v1 : Int} (ev1 : xv1 = Int32.ofInt v1) (rv1 : inR v1) (hR : RC w y g n m) : Rf (RS (fun a b => RI a b) (fun a b => RI a b)) (b_Acts_runNext_48 1789 xv2 xv1 g) (nb_Acts_runNext_48 v2 v1 n) := by
  subst ev2
  subst ev1
  unfold b_Acts_runNext_48 nb_Acts_runNext_48
  refine rf_lt rfl rfl rv1 rv2 ?_ ?_
  · refine c_S hR hw (sK0 hR hw) (by decide) (show srf 0 0 11 = some 1792 from rfl) ?_
    refine c_D (s := 1) hR (bS609 ▸ (ce_by hR hw (by decide))) rfl rfl rfl (fun h3 => ?_)
    refine d_B hR h3 rfl rv1 (fun h4 h5 => ?_)
    refine rf_bind (f_Bytes_isBlank rfl (inB.r h5) hR) (fun a9 z7 h => ?_)
    obtain ⟨rfl, r8⟩ := h
    refine rf_eq rfl (e_n 0) (inZ.r r8) (show inR 0 by decide) ?_ ?_
    · exact rf_ok (by exact ⟨rfl, rv1⟩)
    · refine rf_ck (fun h11 => ?_)
      exact rf_ok (by exact ⟨(e_add rfl (e_n 1)), h11⟩)
  · exact rf_ok (by exact ⟨rfl, rv1⟩)
noncomputable def NL_Acts_runNext_48 (v2 : Int) (v1 : Int) (n : NS) : Option (Int) :=
  it (fun s : Int => nb_Acts_runNext_48 v2 s n) (v1)
theorem fL_Acts_runNext_48 {w y : Prop} {g : g_S} {n : NS} {m : YS} (hw : w) {xv2 : Int32} {v2 : Int} (ev2 : xv2 = Int32.ofInt v2) (rv2 : inR v2) {xv1 : Int32} {v1 : Int} (ev1 : xv1 = Int32.ofInt v1) (rv1 : inR v1) (hR : RC w y g n m) : Rf (fun a b => RI a b) (L_Acts_runNext_48 1789 xv2 xv1 g) (NL_Acts_runNext_48 v2 v1 n) := by
  subst ev2
  subst ev1
  unfold L_Acts_runNext_48 NL_Acts_runNext_48
  refine rf_it (I := (fun a b => RI a b)) (fun s t h => ?_) ⟨rfl, rv1⟩
  exact fb_Acts_runNext_48 hw rfl rv2 h.1 h.2 hR
theorem NL_Acts_runNext_48_eq (v2 : Int) (v1 : Int) (n : NS) : NL_Acts_runNext_48 v2 v1 n = itc (nb_Acts_runNext_48 v2 v1 n) (fun s => NL_Acts_runNext_48 v2 s n) := it_eq2 (fun s : Int => nb_Acts_runNext_48 v2 s n) (v1)
noncomputable def nb_Acts_runNext_10 (v1 : Int) (v2 : Int) (n : NS) : Option ((Int) ⊕ (Int)) :=
  if v2 < (n 4 609 2) then
    nn (n 4 609 1) <|
    dx n (n 4 609 1) 1 v2 <|
    if (n 99 (n 4 609 1) v2) = 59 then
      some (.inr v2)
    else
      ck (v2 + 1) <|
      some (.inl (v2 + 1))
  else
    some (.inr v2)
theorem fb_Acts_runNext_10 {w y : Prop} {g : g_S} {n : NS} {m : YS} (hw : w) {xv1 : Int32} {v1 : Int} (ev1 : xv1 = Int32.ofInt v1) (rv1 : inR v1) {xv2 : Int32} {v2 : Int} (ev2 : xv2 = Int32.ofInt v2) (rv2 : inR v2) (hR : RC w y g n m) : Rf (RS (fun a b => RI a b) (fun a b => RI a b)) (b_Acts_runNext_10 1789 xv1 xv2 g) (nb_Acts_runNext_10 v1 v2 n) := by
  subst ev1
  subst ev2
  unfold b_Acts_runNext_10 nb_Acts_runNext_10
  refine c_S hR hw (sK0 hR hw) (by decide) (show srf 0 0 11 = some 1792 from rfl) ?_
  refine c_I (s := 2) hR (bS609 ▸ (ce_by hR hw (by decide))) rfl rfl (fun h2 => ?_)
  refine rf_lt rfl rfl rv2 h2 ?_ ?_
  · refine c_S hR hw (sK0 hR hw) (by decide) (show srf 0 0 11 = some 1792 from rfl) ?_
    refine c_D (s := 1) hR (bS609 ▸ (ce_by hR hw (by decide))) rfl rfl rfl (fun h5 => ?_)
    refine d_B hR h5 rfl rv2 (fun h6 h7 => ?_)
    refine rf_eq rfl (e_n 59) (inB.r h7) (show inR 59 by decide) ?_ ?_
    · exact rf_ok (by exact ⟨rfl, rv2⟩)
    · refine rf_ck (fun h9 => ?_)
      exact rf_ok (by exact ⟨(e_add rfl (e_n 1)), h9⟩)
  · exact rf_ok (by exact ⟨rfl, rv2⟩)
noncomputable def NL_Acts_runNext_10 (v1 : Int) (v2 : Int) (n : NS) : Option (Int) :=
  it (fun s : Int => nb_Acts_runNext_10 v1 s n) (v2)
theorem fL_Acts_runNext_10 {w y : Prop} {g : g_S} {n : NS} {m : YS} (hw : w) {xv1 : Int32} {v1 : Int} (ev1 : xv1 = Int32.ofInt v1) (rv1 : inR v1) {xv2 : Int32} {v2 : Int} (ev2 : xv2 = Int32.ofInt v2) (rv2 : inR v2) (hR : RC w y g n m) : Rf (fun a b => RI a b) (L_Acts_runNext_10 1789 xv1 xv2 g) (NL_Acts_runNext_10 v1 v2 n) := by
  subst ev1
  subst ev2
  unfold L_Acts_runNext_10 NL_Acts_runNext_10
  refine rf_it (I := (fun a b => RI a b)) (fun s t h => ?_) ⟨rfl, rv2⟩
  exact fb_Acts_runNext_10 hw rfl rv1 h.1 h.2 hR
theorem NL_Acts_runNext_10_eq (v1 : Int) (v2 : Int) (n : NS) : NL_Acts_runNext_10 v1 v2 n = itc (nb_Acts_runNext_10 v1 v2 n) (fun s => NL_Acts_runNext_10 v1 s n) := it_eq2 (fun s : Int => nb_Acts_runNext_10 v1 s n) (v2)
noncomputable def nk_Acts_runNext_74 (v1 : Int) (v2 : Int) (n : NS) : Option (NS) :=
  if v1 = v2 then
    some n
  else
    ck ((n 0 0 9) - 1) <|
    st (nw n 0 0 9 ((n 0 0 9) - 1)) fun n6 =>
    nn (n6 4 609 1) <|
    (N_Acts_runStep (n6 4 609 1) v1 v2 n6).bind <| u2 fun z12 n15 =>
    if z12 = 0 then
      ck ((n15 0 0 8) + 1) <|
      st (nw n15 0 0 8 ((n15 0 0 8) + 1)) fun n22 =>
      some n22
    else
      ck ((n15 0 0 7) + 1) <|
      st (nw n15 0 0 7 ((n15 0 0 7) + 1)) fun n29 =>
      some n29
theorem fk_Acts_runNext_74 {w y : Prop} {g : g_S} {n : NS} {m : YS} (hw : w) {xv1 : Int32} {v1 : Int} (ev1 : xv1 = Int32.ofInt v1) (rv1 : inR v1) {xv2 : Int32} {v2 : Int} (ev2 : xv2 = Int32.ofInt v2) (rv2 : inR v2) (hR : RC w y g n m) : Rf (fun a b => RC w y a b m) (k_Acts_runNext_74 1789 xv1 xv2 g) (nk_Acts_runNext_74 v1 v2 n) := by
  subst ev1
  subst ev2
  unfold k_Acts_runNext_74 nk_Acts_runNext_74
  refine rf_eq rfl rfl rv1 rv2 ?_ ?_
  · exact rf_ok (by exact hR)
  · refine c_I (s := 9) hR (sK0 hR hw) rfl rfl (fun h3 => ?_)
    refine rf_ck (fun h4 => ?_)
    refine p_I (s := 9) hR (sK0 hR hw) rfl ⟨rfl, rfl, by decide⟩ (e_sub rfl (e_n 1)) h4 (fun g8 n6 hR7 => ?_)
    refine c_S hR7 hw (sK0 hR7 hw) (by decide) (show srf 0 0 11 = some 1792 from rfl) ?_
    refine c_D (s := 1) hR7 (bS609 ▸ (ce_by hR7 hw (by decide))) rfl rfl rfl (fun h10 => ?_)
    refine v_c2 (sK0 hR7 hw).1 ?_
    refine rf_c2 (f_Acts_runStep hw rfl h10 rfl rv1 rfl rv2 hR7) (fun a14 g17 b h => ?_)
    obtain ⟨z12, n15⟩ := b
    refine rf_v2 ?_
    obtain ⟨rfl, r13⟩ := (show RZ a14 z12 from h.1)
    have hR16 : RC w y g17 n15 m := h.2
    refine rf_eq rfl (e_n 0) (inZ.r r13) (show inR 0 by decide) ?_ ?_
    · refine c_I (s := 8) hR16 (sK0 hR16 hw) rfl rfl (fun h19 => ?_)
      refine rf_ck (fun h20 => ?_)
      refine p_I (s := 8) hR16 (sK0 hR16 hw) rfl ⟨rfl, rfl, by decide⟩ (e_add rfl (e_n 1)) h20 (fun g24 n22 hR23 => ?_)
      exact rf_ok (by exact hR23)
    · refine c_I (s := 7) hR16 (sK0 hR16 hw) rfl rfl (fun h26 => ?_)
      refine rf_ck (fun h27 => ?_)
      refine p_I (s := 7) hR16 (sK0 hR16 hw) rfl ⟨rfl, rfl, by decide⟩ (e_add rfl (e_n 1)) h27 (fun g31 n29 hR30 => ?_)
      exact rf_ok (by exact hR30)
noncomputable def nk_Acts_runNext_41 (v1 : Int) (v2 : Int) (n : NS) : Option (NS) :=
  ck (v2 + 1) <|
  st (nw n 0 0 12 (v2 + 1)) fun n3 =>
  (NL_Acts_runNext_48 v2 v1 n3).bind <| fun z6 =>
  nk_Acts_runNext_74 z6 v2 n3
theorem fk_Acts_runNext_41 {w y : Prop} {g : g_S} {n : NS} {m : YS} (hw : w) {xv1 : Int32} {v1 : Int} (ev1 : xv1 = Int32.ofInt v1) (rv1 : inR v1) {xv2 : Int32} {v2 : Int} (ev2 : xv2 = Int32.ofInt v2) (rv2 : inR v2) (hR : RC w y g n m) : Rf (fun a b => RC w y a b m) (k_Acts_runNext_41 1789 xv1 xv2 g) (nk_Acts_runNext_41 v1 v2 n) := by
  subst ev1
  subst ev2
  unfold k_Acts_runNext_41 nk_Acts_runNext_41
  refine rf_ck (fun h1 => ?_)
  refine p_I (s := 12) hR (sK0 hR hw) rfl ⟨rfl, rfl, by decide⟩ (e_add rfl (e_n 1)) h1 (fun g5 n3 hR4 => ?_)
  refine rf_bind (fL_Acts_runNext_48 hw rfl rv2 rfl rv1 hR4) (fun a7 z6 h => ?_)
  obtain ⟨rfl, r8⟩ := (show RI a7 z6 from h)
  exact fk_Acts_runNext_74 hw rfl r8 rfl rv2 hR4
noncomputable def N_Acts_runNext (n : NS) : Option (NS) :=
  (NL_Acts_runNext_10 (n 0 0 12) (n 0 0 12) n).bind <| fun z3 =>
  nk_Acts_runNext_41 (n 0 0 12) z3 n
theorem f_Acts_runNext {w y : Prop} {g : g_S} {n : NS} {m : YS} (hw : w) (hR : RC w y g n m) : Rf (fun a b => RC w y a b m) (M_Acts_runNext 1789 g) (N_Acts_runNext n) := by
  unfold M_Acts_runNext N_Acts_runNext
  refine c_I (s := 12) hR (sK0 hR hw) rfl rfl (fun h1 => ?_)
  refine c_I (s := 12) hR (sK0 hR hw) rfl rfl (fun h2 => ?_)
  refine rf_bind (fL_Acts_runNext_10 hw rfl h1 rfl h2 hR) (fun a4 z3 h => ?_)
  obtain ⟨rfl, r5⟩ := (show RI a4 z3 from h)
  exact fk_Acts_runNext_41 hw rfl h1 rfl r5 hR
noncomputable def N_Acts_startScript (v1 : Int) (v2 : Int) (n : NS) : Option (NS) :=
  (N_Bytes_clear 609 n).bind fun n3 =>
  nn (n3 4 v1 1) <|
  (N_Bytes_addAll 609 (n3 4 v1 1) 0 (n3 4 v1 2) n3).bind fun n10 =>
  st (nw n10 0 0 12 0) fun n14 =>
  st (nw n14 0 0 13 v2) fun n18 =>
  some n18
theorem f_Acts_startScript {w y : Prop} {g : g_S} {n : NS} {m : YS} (hw : w) {xv1 : Nat} {v1 : Int} (ev1 : xv1 = aBy v1) (rv1 : 0 ≤ v1 ∧ v1 ≤ 631) {xv2 : Int64} {v2 : Int} (ev2 : xv2 = Int64.ofInt v2) (rv2 : inL v2) (hR : RC w y g n m) : Rf (fun a b => RC w y a b m) (M_Acts_startScript 1789 xv1 xv2 g) (N_Acts_startScript v1 v2 n) := by
  subst ev1
  subst ev2
  unfold M_Acts_startScript N_Acts_startScript
  refine c_S hR hw (sK0 hR hw) (by decide) (show srf 0 0 11 = some 1792 from rfl) ?_
  refine v_c (bS609 ▸ (ce_by hR hw (by decide))).1 ?_
  refine rf_bind (f_Bytes_clear hw bS609.symm (by decide) hR) (fun g5 n3 hR4 => ?_)
  refine c_S hR4 hw (sK0 hR4 hw) (by decide) (show srf 0 0 11 = some 1792 from rfl) ?_
  refine c_D (s := 1) hR4 (ce_by hR4 hw rv1) rfl rfl rfl (fun h7 => ?_)
  refine c_I (s := 2) hR4 (ce_by hR4 hw rv1) rfl rfl (fun h8 => ?_)
  refine v_c (bS609 ▸ (ce_by hR4 hw (by decide))).1 ?_
  refine rf_bind (f_Bytes_addAll hw bS609.symm (by decide) rfl h7 (e_n 0) (show inR 0 by decide) rfl h8 hR4) (fun g12 n10 hR11 => ?_)
  refine p_I (s := 12) hR11 (sK0 hR11 hw) rfl ⟨rfl, rfl, by decide⟩ (e_n 0) (show inR 0 by decide) (fun g16 n14 hR15 => ?_)
  refine p_L (s := 13) hR15 (sK0 hR15 hw) rfl rfl rfl rv2 (fun g20 n18 hR19 => ?_)
  exact rf_ok (by exact hR19)
noncomputable def nk_Acts_listenNext_62 (v1 : Int) (v3 : Int) (w0 : Nat) (n : NS) : Option (NS) :=
  ix v3 120 <|
  (N_Node_read v3 w0 n).bind fun z6 =>
  if z6 < 0 then
    some n
  else
    (N_Acts_startScript z6 v1 n).bind fun n12 =>
    some n12
theorem fk_Acts_listenNext_62 {w y : Prop} {g : g_S} {n : NS} {m : YS} (hw : w) {xv1 : Int64} {v1 : Int} (ev1 : xv1 = Int64.ofInt v1) (rv1 : inL v1) {xv3 : Int32} {v3 : Int} (ev3 : xv3 = Int32.ofInt v3) (rv3 : inR v3) {w0 : Nat} (hR : RC w y g n m) : Rf (fun a b => RC w y a b m) (k_Acts_listenNext_62 1789 xv1 xv3 w0 g) (nk_Acts_listenNext_62 v1 v3 w0 n) := by
  subst ev1
  subst ev3
  unfold k_Acts_listenNext_62 nk_Acts_listenNext_62
  refine c_S hR hw (sK0 hR hw) (by decide) (show srf 0 0 0 = some 5 from rfl) ?_
  refine c_S hR hw (sK10 hR hw) (by decide) (show srf 10 0 0 = some 6 from rfl) ?_
  refine s_S (p := aNd (_)) (L := 120) hR hw (sA20 hR hw) (by decide) (lA20 hR hw) rfl rfl rv3 (fun z1 z2 => srf20 z1 z2) (fun h3 => ?_)
  refine v_c (ce_nd hR hw (And.intro h3.1 (Int.le_of_lt h3.2))).1 ?_
  refine rf_bind (f_Node_read hw rfl (And.intro h3.1 (Int.le_of_lt h3.2)) hR) (fun a8 z6 h => ?_)
  obtain ⟨rfl, r7⟩ := h
  refine rf_oy (fun h9 => ?_) (fun h9 => ?_)
  · refine v_c (sK0 hR hw).1 ?_
    refine rf_bind (f_Acts_startScript hw rfl (And.intro h9 r7) rfl rv1 hR) (fun g14 n12 hR13 => ?_)
    exact rf_ok (by exact hR13)
  · exact rf_ok (by exact hR)
noncomputable def N_Acts_listenNext (n : NS) : Option (NS) :=
  ix (n 0 0 15) 120 <|
  (N_Tree_alive (n 46 0 (n 0 0 15)) n).bind fun z7 =>
  ck ((n 0 0 15) + 1) <|
  st (nw n 0 0 15 ((n 0 0 15) + 1)) fun n13 =>
  if z7 = (-1) then
    some n13
  else
    if (n13 0 0 18) = 0 then
      nk_Acts_listenNext_62 (n 46 0 (n 0 0 15)) z7 1000021 n13
    else
      if (n13 0 0 18) = (-1) then
        nk_Acts_listenNext_62 (n 46 0 (n 0 0 15)) z7 1000026 n13
      else
        nk_Acts_listenNext_62 (n 46 0 (n 0 0 15)) z7 1000027 n13
theorem f_Acts_listenNext {w y : Prop} {g : g_S} {n : NS} {m : YS} (hw : w) (hR : RC w y g n m) : Rf (fun a b => RC w y a b m) (M_Acts_listenNext 1789 g) (N_Acts_listenNext n) := by
  unfold M_Acts_listenNext N_Acts_listenNext
  refine c_S hR hw (sK0 hR hw) (by decide) (show srf 0 0 14 = some 1794 from rfl) ?_
  refine c_I (s := 15) hR (sK0 hR hw) rfl rfl (fun h2 => ?_)
  refine s_L (L := 120) hR (sA46 hR hw) (lA46 hR hw) rfl rfl h2 (fun h3 h4 => ?_)
  refine c_S hR hw (sK0 hR hw) (by decide) (show srf 0 0 0 = some 5 from rfl) ?_
  refine v_c (sK10 hR hw).1 ?_
  refine rf_bind (f_Tree_alive hw rfl h4 hR) (fun a9 z7 h => ?_)
  obtain ⟨rfl, r8⟩ := h
  refine c_I (s := 15) hR (sK0 hR hw) rfl rfl (fun h10 => ?_)
  refine rf_ck (fun h11 => ?_)
  refine p_I (s := 15) hR (sK0 hR hw) rfl ⟨rfl, rfl, by decide⟩ (e_add rfl (e_n 1)) h11 (fun g15 n13 hR14 => ?_)
  refine rf_eq rfl (e_m 1) r8 (show inR (-1) by decide) ?_ ?_
  · exact rf_ok (by exact hR14)
  · refine c_I (s := 18) hR14 (sK0 hR14 hw) rfl rfl (fun h18 => ?_)
    refine rf_eq rfl (e_n 0) h18 (show inR 0 by decide) ?_ ?_
    · exact fk_Acts_listenNext_62 hw rfl h4 rfl r8 hR14
    · refine c_I (s := 18) hR14 (sK0 hR14 hw) rfl rfl (fun h21 => ?_)
      refine rf_eq rfl (e_m 1) h21 (show inR (-1) by decide) ?_ ?_
      · exact fk_Acts_listenNext_62 hw rfl h4 rfl r8 hR14
      · exact fk_Acts_listenNext_62 hw rfl h4 rfl r8 hR14
noncomputable def N_Bytes_dropLast (v0 : Int) (n : NS) : Option (NS) :=
  if 0 < (n 4 v0 2) then
    ck ((n 4 v0 2) - 1) <|
    st (nw n 4 v0 2 ((n 4 v0 2) - 1)) fun n6 =>
    some n6
  else
    some n
theorem f_Bytes_dropLast {w y : Prop} {g : g_S} {n : NS} {m : YS} (hw : w) {xv0 : Nat} {v0 : Int} (ev0 : xv0 = aBy v0) (rv0 : 0 ≤ v0 ∧ v0 ≤ 631) (hR : RC w y g n m) : Rf (fun a b => RC w y a b m) (M_Bytes_dropLast xv0 g) (N_Bytes_dropLast v0 n) := by
  subst ev0
  unfold M_Bytes_dropLast N_Bytes_dropLast
  refine c_I (s := 2) hR (ce_by hR hw rv0) rfl rfl (fun h1 => ?_)
  refine rf_lt (e_n 0) rfl (show inR 0 by decide) h1 ?_ ?_
  · refine c_I (s := 2) hR (ce_by hR hw rv0) rfl rfl (fun h3 => ?_)
    refine rf_ck (fun h4 => ?_)
    refine p_I (s := 2) hR (ce_by hR hw rv0) rfl ⟨rfl, rfl, by decide⟩ (e_sub rfl (e_n 1)) h4 (fun g8 n6 hR7 => ?_)
    exact rf_ok (by exact hR7)
  · exact rf_ok (by exact hR)
noncomputable def nb_Tree_around_10 (v2 : Int) (v3 : Int) (n : NS) : Option ((Int) ⊕ (Int)) :=
  if v3 = (-1) then
    some (.inr v3)
  else
    ix v3 120 <|
    if (n 7 v3 0) = v2 then
      some (.inr v3)
    else
      ix v3 120 <|
      some (.inl (n 7 v3 2))
theorem fb_Tree_around_10 {w y : Prop} {g : g_S} {n : NS} {m : YS} (hw : w) {xv2 : Int32} {v2 : Int} (ev2 : xv2 = Int32.ofInt v2) (rv2 : inR v2) {xv3 : Int32} {v3 : Int} (ev3 : xv3 = Int32.ofInt v3) (rv3 : inR v3) (hR : RC w y g n m) : Rf (RS (fun a b => RI a b) (fun a b => RI a b)) (b_Tree_around_10 5 xv2 xv3 g) (nb_Tree_around_10 v2 v3 n) := by
  subst ev2
  subst ev3
  unfold b_Tree_around_10 nb_Tree_around_10
  refine rf_eq rfl (e_m 1) rv3 (show inR (-1) by decide) ?_ ?_
  · exact rf_ok (by exact ⟨rfl, rv3⟩)
  · refine c_S hR hw (sK10 hR hw) (by decide) (show srf 10 0 0 = some 6 from rfl) ?_
    refine s_S (p := aNd (_)) (L := 120) hR hw (sA20 hR hw) (by decide) (lA20 hR hw) rfl rfl rv3 (fun z1 z2 => srf20 z1 z2) (fun h3 => ?_)
    refine c_I (s := 0) hR (ce_nd hR hw (And.intro h3.1 (Int.le_of_lt h3.2))) rfl rfl (fun h5 => ?_)
    refine rf_eq rfl rfl h5 rv2 ?_ ?_
    · exact rf_ok (by exact ⟨rfl, rv3⟩)
    · refine c_S hR hw (sK10 hR hw) (by decide) (show srf 10 0 0 = some 6 from rfl) ?_
      refine s_S (p := aNd (_)) (L := 120) hR hw (sA20 hR hw) (by decide) (lA20 hR hw) rfl rfl rv3 (fun z1 z2 => srf20 z1 z2) (fun h8 => ?_)
      refine c_I (s := 2) hR (ce_nd hR hw (And.intro h8.1 (Int.le_of_lt h8.2))) rfl rfl (fun h10 => ?_)
      exact rf_ok (by exact ⟨rfl, h10⟩)
noncomputable def NL_Tree_around_10 (v2 : Int) (v3 : Int) (n : NS) : Option (Int) :=
  it (fun s : Int => nb_Tree_around_10 v2 s n) (v3)
theorem fL_Tree_around_10 {w y : Prop} {g : g_S} {n : NS} {m : YS} (hw : w) {xv2 : Int32} {v2 : Int} (ev2 : xv2 = Int32.ofInt v2) (rv2 : inR v2) {xv3 : Int32} {v3 : Int} (ev3 : xv3 = Int32.ofInt v3) (rv3 : inR v3) (hR : RC w y g n m) : Rf (fun a b => RI a b) (L_Tree_around_10 5 xv2 xv3 g) (NL_Tree_around_10 v2 v3 n) := by
  subst ev2
  subst ev3
  unfold L_Tree_around_10 NL_Tree_around_10
  refine rf_it (I := (fun a b => RI a b)) (fun s t h => ?_) ⟨rfl, rv3⟩
  exact fb_Tree_around_10 hw rfl rv2 h.1 h.2 hR
theorem NL_Tree_around_10_eq (v2 : Int) (v3 : Int) (n : NS) : NL_Tree_around_10 v2 v3 n = itc (nb_Tree_around_10 v2 v3 n) (fun s => NL_Tree_around_10 v2 s n) := it_eq2 (fun s : Int => nb_Tree_around_10 v2 s n) (v3)
noncomputable def N_Tree_around (v1 : Int) (v2 : Int) (n : NS) : Option (Int) :=
  ix v1 120 <|
  (NL_Tree_around_10 v2 (n 7 v1 2) n).bind <| fun z5 =>
  some z5
theorem f_Tree_around {w y : Prop} {g : g_S} {n : NS} {m : YS} (hw : w) {xv1 : Int32} {v1 : Int} (ev1 : xv1 = Int32.ofInt v1) (rv1 : inR v1) {xv2 : Int32} {v2 : Int} (ev2 : xv2 = Int32.ofInt v2) (rv2 : inR v2) (hR : RC w y g n m) : Rf (fun a b => RI a b) (M_Tree_around 5 xv1 xv2 g) (N_Tree_around v1 v2 n) := by
  subst ev1
  subst ev2
  unfold M_Tree_around N_Tree_around
  refine c_S hR hw (sK10 hR hw) (by decide) (show srf 10 0 0 = some 6 from rfl) ?_
  refine s_S (p := aNd (_)) (L := 120) hR hw (sA20 hR hw) (by decide) (lA20 hR hw) rfl rfl rv1 (fun z1 z2 => srf20 z1 z2) (fun h2 => ?_)
  refine c_I (s := 2) hR (ce_nd hR hw (And.intro h2.1 (Int.le_of_lt h2.2))) rfl rfl (fun h4 => ?_)
  refine rf_bind (fL_Tree_around_10 hw rfl rv2 rfl h4 hR) (fun a6 z5 h => ?_)
  obtain ⟨rfl, r7⟩ := (show RI a6 z5 from h)
  exact rf_ok (by exact ⟨rfl, r7⟩)
noncomputable def N_Bytes_isNameWhole (v0 : Int) (n : NS) : Option (Int) :=
  nn (n 4 v0 1) <|
  (N_Bytes_isName (n 4 v0 1) 0 (n 4 v0 2) n).bind fun z4 =>
  some z4
theorem f_Bytes_isNameWhole {w y : Prop} {g : g_S} {n : NS} {m : YS} (hw : w) {xv0 : Nat} {v0 : Int} (ev0 : xv0 = aBy v0) (rv0 : 0 ≤ v0 ∧ v0 ≤ 631) (hR : RC w y g n m) : Rf (fun a b => RZ a b) (M_Bytes_isNameWhole xv0 g) (N_Bytes_isNameWhole v0 n) := by
  subst ev0
  unfold M_Bytes_isNameWhole N_Bytes_isNameWhole
  refine c_D (s := 1) hR (ce_by hR hw rv0) rfl rfl rfl (fun h1 => ?_)
  refine c_I (s := 2) hR (ce_by hR hw rv0) rfl rfl (fun h2 => ?_)
  refine rf_bind (f_Bytes_isName rfl h1 (e_n 0) (show inR 0 by decide) rfl h2 hR) (fun a6 z4 h => ?_)
  obtain ⟨rfl, r5⟩ := h
  refine rf_tz rfl r5 ?_
  exact rf_ok (by exact ⟨rfl, r5⟩)
noncomputable def nb_Acts_addSent_20 (v1 : Int) (v2 : Int) (n : NS) : Option ((Int × NS) ⊕ (NS)) :=
  if v2 < (n 4 (5 * v1) 2) then
    nn (n 4 (5 * v1) 1) <|
    dx n (n 4 (5 * v1) 1) 1 v2 <|
    if (n 99 (n 4 (5 * v1) 1) v2) = 32 then
      (N_Bytes_add 610 43 n).bind fun n11 =>
      ck (v2 + 1) <|
      some (.inl (v2 + 1, n11))
    else
      (N_Address_isSegmentByte (n 99 (n 4 (5 * v1) 1) v2) n).bind fun z16 =>
      if z16 = 0 then
        ck (v2 + 1) <|
        some (.inl (v2 + 1, n))
      else
        (N_Bytes_add 610 (n 99 (n 4 (5 * v1) 1) v2) n).bind fun n23 =>
        ck (v2 + 1) <|
        some (.inl (v2 + 1, n23))
  else
    some (.inr n)
theorem fb_Acts_addSent_20 {w y : Prop} {g : g_S} {n : NS} {m : YS} (hw : w) {xv1 : Nat} {v1 : Int} (ev1 : xv1 = aNd v1) (rv1 : 0 ≤ v1 ∧ v1 ≤ 120) {xv2 : Int32} {v2 : Int} (ev2 : xv2 = Int32.ofInt v2) (rv2 : inR v2) (hR : RC w y g n m) : Rf (RS (fun a b => RI a.1 b.1 ∧ RC w y a.2 b.2 m) (fun a b => RC w y a b m)) (b_Acts_addSent_20 1789 xv1 xv2 g) (nb_Acts_addSent_20 v1 v2 n) := by
  subst ev1
  subst ev2
  unfold b_Acts_addSent_20 nb_Acts_addSent_20
  refine c_S (p := _) hR hw (ce_nd hR hw rv1) (Nat.lt_trans (nd_lt rv1).1 (by decide)) rfl ?_
  refine c_I (s := 2) hR (ce_by hR hw (by5 rv1)) rfl rfl (fun h2 => ?_)
  refine rf_lt rfl rfl rv2 h2 ?_ ?_
  · refine c_S (p := _) hR hw (ce_nd hR hw rv1) (Nat.lt_trans (nd_lt rv1).1 (by decide)) rfl ?_
    refine c_D (s := 1) hR (ce_by hR hw (by5 rv1)) rfl rfl rfl (fun h5 => ?_)
    refine d_B hR h5 rfl rv2 (fun h6 h7 => ?_)
    refine rf_eq rfl (e_n 32) (inB.r h7) (show inR 32 by decide) ?_ ?_
    · refine c_S hR hw (sK0 hR hw) (by decide) (show srf 0 0 19 = some 1795 from rfl) ?_
      refine v_c (bS610 ▸ (ce_by hR hw (by decide))).1 ?_
      refine rf_bind (f_Bytes_add hw bS610.symm (by decide) (e_n 43) (show inR 43 by decide) hR) (fun g13 n11 hR12 => ?_)
      refine rf_ck (fun h14 => ?_)
      exact rf_ok (by exact ⟨⟨(e_add rfl (e_n 1)), h14⟩, hR12⟩)
    · refine rf_bind (f_Address_isSegmentByte rfl (inB.r h7) hR) (fun a18 z16 h => ?_)
      obtain ⟨rfl, r17⟩ := h
      refine rf_eq rfl (e_n 0) (inZ.r r17) (show inR 0 by decide) ?_ ?_
      · refine rf_ck (fun h20 => ?_)
        exact rf_ok (by exact ⟨⟨(e_add rfl (e_n 1)), h20⟩, hR⟩)
      · refine c_S hR hw (sK0 hR hw) (by decide) (show srf 0 0 19 = some 1795 from rfl) ?_
        refine v_c (bS610 ▸ (ce_by hR hw (by decide))).1 ?_
        refine rf_bind (f_Bytes_add hw bS610.symm (by decide) rfl (inB.r h7) hR) (fun g25 n23 hR24 => ?_)
        refine rf_ck (fun h26 => ?_)
        exact rf_ok (by exact ⟨⟨(e_add rfl (e_n 1)), h26⟩, hR24⟩)
  · exact rf_ok (by exact hR)
noncomputable def NL_Acts_addSent_20 (v1 : Int) (v2 : Int) (n : NS) : Option (NS) :=
  it (fun s : Int × NS => nb_Acts_addSent_20 v1 s.1 s.2) (v2, n)
theorem fL_Acts_addSent_20 {w y : Prop} {g : g_S} {n : NS} {m : YS} (hw : w) {xv1 : Nat} {v1 : Int} (ev1 : xv1 = aNd v1) (rv1 : 0 ≤ v1 ∧ v1 ≤ 120) {xv2 : Int32} {v2 : Int} (ev2 : xv2 = Int32.ofInt v2) (rv2 : inR v2) (hR : RC w y g n m) : Rf (fun a b => RC w y a b m) (L_Acts_addSent_20 1789 xv1 xv2 g) (NL_Acts_addSent_20 v1 v2 n) := by
  subst ev1
  subst ev2
  unfold L_Acts_addSent_20 NL_Acts_addSent_20
  refine rf_it (I := (fun a b => RI a.1 b.1 ∧ RC w y a.2 b.2 m)) (fun s t h => ?_) ⟨⟨rfl, rv2⟩, hR⟩
  exact fb_Acts_addSent_20 hw rfl rv1 h.1.1 h.1.2 h.2
theorem NL_Acts_addSent_20_eq (v1 : Int) (v2 : Int) (n : NS) : NL_Acts_addSent_20 v1 v2 n = itc (nb_Acts_addSent_20 v1 v2 n) (fun s => NL_Acts_addSent_20 v1 s.1 s.2) := it_eq2 (fun s : Int × NS => nb_Acts_addSent_20 v1 s.1 s.2) (v2, n)
noncomputable def N_Acts_addSent (v1 : Int) (n : NS) : Option (NS) :=
  if (n 7 v1 15) = 0 then
    (NL_Acts_addSent_20 v1 0 n).bind <| fun n3 =>
    some n3
  else
    (N_Bytes_addText 610 1000030 n).bind fun n10 =>
    some n10
theorem f_Acts_addSent {w y : Prop} {g : g_S} {n : NS} {m : YS} (hw : w) {xv1 : Nat} {v1 : Int} (ev1 : xv1 = aNd v1) (rv1 : 0 ≤ v1 ∧ v1 ≤ 120) (hR : RC w y g n m) : Rf (fun a b => RC w y a b m) (M_Acts_addSent 1789 xv1 g) (N_Acts_addSent v1 n) := by
  subst ev1
  unfold M_Acts_addSent N_Acts_addSent
  refine c_Z (s := 15) hR (ce_nd hR hw rv1) rfl rfl rfl (fun h1 => ?_)
  refine rf_eq rfl (e_n 0) (inZ.r h1) (show inR 0 by decide) ?_ ?_
  · refine rf_bind (fL_Acts_addSent_20 hw rfl rv1 (e_n 0) (show inR 0 by decide) hR) (fun a4 n3 h => ?_)
    have hR5 : RC w y a4 n3 m := h
    exact rf_ok (by exact hR5)
  · refine c_S hR hw (sK0 hR hw) (by decide) (show srf 0 0 19 = some 1795 from rfl) ?_
    refine v_c (bS610 ▸ (ce_by hR hw (by decide))).1 ?_
    refine rf_bind (f_Bytes_addText hw bS610.symm (by decide) hR) (fun g12 n10 hR11 => ?_)
    exact rf_ok (by exact hR11)
noncomputable def N_Address_replaceQuery (v0 : Int) (v1 : Int) (n : NS) : Option (NS) :=
  ty n v0 101 <|
  ck ((n 99 v0 3) + 1) <|
  ck (((n 99 v0 3) + 1) + (min (n 4 v1 2) 40)) <|
  ty n v0 101 <|
  ty n v0 101 <|
  ck ((n 99 v0 5) - (n 99 v0 4)) <|
  ty n v0 101 <|
  nn (n 99 v0 0) <|
  ty n v0 101 <|
  ty n v0 101 <|
  nn (n 99 v0 0) <|
  cpg n 1 (n 99 v0 0) (n 99 v0 4) (n 99 v0 0) (((n 99 v0 3) + 1) + (min (n 4 v1 2) 40)) ((n 99 v0 5) - (n 99 v0 4)) <|
  st (nwA n 99 (n 99 v0 0) (cpf (n 99 (n 99 v0 0)) (n 99 (n 99 v0 0)) (n 99 v0 4) (((n 99 v0 3) + 1) + (min (n 4 v1 2) 40)) ((n 99 v0 5) - (n 99 v0 4)))) fun n25 =>
  ty n25 v0 101 <|
  nn (n25 99 v0 0) <|
  ty n25 v0 101 <|
  dx n25 (n25 99 v0 0) 1 (n25 99 v0 3) <|
  st (nw n25 99 (n25 99 v0 0) (n25 99 v0 3) 63) fun n35 =>
  nn (n35 4 v1 1) <|
  ty n35 v0 101 <|
  nn (n35 99 v0 0) <|
  ty n35 v0 101 <|
  ck ((n35 99 v0 3) + 1) <|
  cpg n35 1 (n35 4 v1 1) 0 (n35 99 v0 0) ((n35 99 v0 3) + 1) (min (n 4 v1 2) 40) <|
  st (nwA n35 99 (n35 99 v0 0) (cpf (n35 99 (n35 4 v1 1)) (n35 99 (n35 99 v0 0)) 0 ((n35 99 v0 3) + 1) (min (n 4 v1 2) 40))) fun n47 =>
  ty n47 v0 101 <|
  st (nw n47 99 v0 4 (((n 99 v0 3) + 1) + (min (n 4 v1 2) 40))) fun n53 =>
  ck ((((n 99 v0 3) + 1) + (min (n 4 v1 2) 40)) + ((n 99 v0 5) - (n 99 v0 4))) <|
  ty n53 v0 101 <|
  st (nw n53 99 v0 5 ((((n 99 v0 3) + 1) + (min (n 4 v1 2) 40)) + ((n 99 v0 5) - (n 99 v0 4)))) fun n60 =>
  some n60
theorem f_Address_replaceQuery {w y : Prop} {g : g_S} {n : NS} {m : YS} (hw : w) {xv0 : Nat} {v0 : Int} (ev0 : xv0 = Int.toNat v0) (rv0 : 0 ≤ v0 ∧ lc (Int.toNat v0) = (99, v0)) {xv1 : Nat} {v1 : Int} (ev1 : xv1 = aBy v1) (rv1 : 0 ≤ v1 ∧ v1 ≤ 631) (hR : RC w y g n m) : Rf (fun a b => RC w y a b m) (M_Address_replaceQuery xv0 xv1 g) (N_Address_replaceQuery v0 v1 n) := by
  subst ev0
  subst ev1
  unfold M_Address_replaceQuery N_Address_replaceQuery
  refine c_I (s := 2) hR (ce_by hR hw rv1) rfl rfl (fun h1 => ?_)
  refine rf_ty (t := 101) rv0.1 hR (by decide) (fun h4 h5 => ?_)
  refine c_I (s := 3) hR (ce_dy hR rv0 h5 (by decide)) rfl rfl (fun h3 => ?_)
  refine rf_ck (fun h6 => ?_)
  refine rf_ck (fun h7 => ?_)
  refine rf_ty (t := 101) rv0.1 hR (by decide) (fun h9 h10 => ?_)
  refine c_I (s := 5) hR (ce_dy hR rv0 h10 (by decide)) rfl rfl (fun h8 => ?_)
  refine rf_ty (t := 101) rv0.1 hR (by decide) (fun h12 h13 => ?_)
  refine c_I (s := 4) hR (ce_dy hR rv0 h13 (by decide)) rfl rfl (fun h11 => ?_)
  refine rf_ck (fun h14 => ?_)
  refine rf_ty (t := 101) rv0.1 hR (by decide) (fun h16 h17 => ?_)
  refine c_D (s := 0) hR (ce_dy hR rv0 h17 (by decide)) rfl rfl rfl (fun h15 => ?_)
  refine rf_ty (t := 101) rv0.1 hR (by decide) (fun h19 h20 => ?_)
  refine c_I (s := 4) hR (ce_dy hR rv0 h20 (by decide)) rfl rfl (fun h18 => ?_)
  refine rf_ty (t := 101) rv0.1 hR (by decide) (fun h22 h23 => ?_)
  refine c_D (s := 0) hR (ce_dy hR rv0 h23 (by decide)) rfl rfl rfl (fun h21 => ?_)
  refine n_cp hR (by decide) h15 h21 rfl h18 (e_add (e_add rfl (e_n 1)) (e_mn rfl (e_n 40) h1 (show inR 40 by decide))) h7 (e_sub rfl rfl) h14 (fun g27 n25 hR26 => ?_)
  refine rf_ty (t := 101) rv0.1 hR26 (by decide) (fun h29 h30 => ?_)
  refine c_D (s := 0) hR26 (ce_dy hR26 rv0 h30 (by decide)) rfl rfl rfl (fun h28 => ?_)
  refine rf_ty (t := 101) rv0.1 hR26 (by decide) (fun h32 h33 => ?_)
  refine c_I (s := 3) hR26 (ce_dy hR26 rv0 h33 (by decide)) rfl rfl (fun h31 => ?_)
  refine e_B hR26 h28 rfl h31 (e_n 63) (show inB 63 by decide) (fun g37 n35 hR36 => ?_)
  refine c_D (s := 1) hR36 (ce_by hR36 hw rv1) rfl rfl rfl (fun h38 => ?_)
  refine rf_ty (t := 101) rv0.1 hR36 (by decide) (fun h40 h41 => ?_)
  refine c_D (s := 0) hR36 (ce_dy hR36 rv0 h41 (by decide)) rfl rfl rfl (fun h39 => ?_)
  refine rf_ty (t := 101) rv0.1 hR36 (by decide) (fun h43 h44 => ?_)
  refine c_I (s := 3) hR36 (ce_dy hR36 rv0 h44 (by decide)) rfl rfl (fun h42 => ?_)
  refine rf_ck (fun h45 => ?_)
  refine n_cp hR36 (by decide) h38 h39 (e_n 0) (show inR 0 by decide) (e_add rfl (e_n 1)) h45 (e_mn rfl (e_n 40) h1 (show inR 40 by decide)) (min_r h1 (show inR 40 by decide)) (fun g49 n47 hR48 => ?_)
  refine rf_ty (t := 101) rv0.1 hR48 (by decide) (fun h51 h52 => ?_)
  refine p_I (s := 4) hR48 (ce_dy hR48 rv0 h52 (by decide)) rfl ⟨rfl, rfl, by decide⟩ (e_add (e_add rfl (e_n 1)) (e_mn rfl (e_n 40) h1 (show inR 40 by decide))) h7 (fun g55 n53 hR54 => ?_)
  refine rf_ck (fun h56 => ?_)
  refine rf_ty (t := 101) rv0.1 hR54 (by decide) (fun h58 h59 => ?_)
  refine p_I (s := 5) hR54 (ce_dy hR54 rv0 h59 (by decide)) rfl ⟨rfl, rfl, by decide⟩ (e_add (e_add (e_add rfl (e_n 1)) (e_mn rfl (e_n 40) h1 (show inR 40 by decide))) (e_sub rfl rfl)) h56 (fun g62 n60 hR61 => ?_)
  exact rf_ok (by exact hR61)
noncomputable def nk_Acts_send_203 (v1 : Int) (v4 : Int) (v5 : Int) (v6 : Int) (n : NS) : Option ((Int × Int × NS) ⊕ (NS)) :=
  if v6 < 0 then
    none
  else
    nn (n 4 v6 1) <|
    (N_Bytes_addAll 610 (n 4 v6 1) 0 (n 4 v6 2) n).bind fun n6 =>
    (N_Bytes_add 610 61 n6).bind fun n11 =>
    (N_Acts_addSent v5 n11).bind fun n15 =>
    ck (v4 + 1) <|
    some (.inl (0, v4 + 1, n15))
theorem fk_Acts_send_203 {w y : Prop} {g : g_S} {n : NS} {m : YS} (hw : w) {xv1 : Int32} {v1 : Int} (ev1 : xv1 = Int32.ofInt v1) (rv1 : inR v1) {xv4 : Int32} {v4 : Int} (ev4 : xv4 = Int32.ofInt v4) (rv4 : inR v4) {xv5 : Nat} {v5 : Int} (ev5 : xv5 = aNd v5) (rv5 : 0 ≤ v5 ∧ v5 ≤ 120) {xv6 : Option Nat} {v6 : Int} (ev6 : xv6 = oBy v6) (rv6 : v6 ≤ 631) (hR : RC w y g n m) : Rf (RS (fun a b => RI a.1 b.1 ∧ RI a.2.1 b.2.1 ∧ RC w y a.2.2 b.2.2 m) (fun a b => RC w y a b m)) (k_Acts_send_203 1789 xv1 xv4 xv5 xv6 g) (nk_Acts_send_203 v1 v4 v5 v6 n) := by
  subst ev1
  subst ev4
  subst ev5
  subst ev6
  unfold k_Acts_send_203 nk_Acts_send_203
  refine c_S hR hw (sK0 hR hw) (by decide) (show srf 0 0 19 = some 1795 from rfl) ?_
  refine rf_oy (fun h2 => ?_) (fun h2 => ?_)
  · refine c_D (s := 1) hR (ce_by hR hw (And.intro h2 rv6)) rfl rfl rfl (fun h3 => ?_)
    refine c_I (s := 2) hR (ce_by hR hw (And.intro h2 rv6)) rfl rfl (fun h4 => ?_)
    refine v_c (bS610 ▸ (ce_by hR hw (by decide))).1 ?_
    refine rf_bind (f_Bytes_addAll hw bS610.symm (by decide) rfl h3 (e_n 0) (show inR 0 by decide) rfl h4 hR) (fun g8 n6 hR7 => ?_)
    refine c_S hR7 hw (sK0 hR7 hw) (by decide) (show srf 0 0 19 = some 1795 from rfl) ?_
    refine v_c (bS610 ▸ (ce_by hR7 hw (by decide))).1 ?_
    refine rf_bind (f_Bytes_add hw bS610.symm (by decide) (e_n 61) (show inR 61 by decide) hR7) (fun g13 n11 hR12 => ?_)
    refine v_c (sK0 hR12 hw).1 ?_
    refine rf_bind (f_Acts_addSent hw rfl rv5 hR12) (fun g17 n15 hR16 => ?_)
    refine rf_ck (fun h18 => ?_)
    exact rf_ok (by exact ⟨⟨(e_n 0), (show inR 0 by decide)⟩, ⟨(e_add rfl (e_n 1)), h18⟩, hR16⟩)
  · exact rf_no
noncomputable def nk_Acts_send_190 (v1 : Int) (v3 : Int) (v4 : Int) (v5 : Int) (v6 : Int) (n : NS) : Option ((Int × Int × NS) ⊕ (NS)) :=
  if v3 = 0 then
    (N_Bytes_add 610 38 n).bind fun n4 =>
    nk_Acts_send_203 v1 v4 v5 v6 n4
  else
    nk_Acts_send_203 v1 v4 v5 v6 n
theorem fk_Acts_send_190 {w y : Prop} {g : g_S} {n : NS} {m : YS} (hw : w) {xv1 : Int32} {v1 : Int} (ev1 : xv1 = Int32.ofInt v1) (rv1 : inR v1) {xv3 : Int32} {v3 : Int} (ev3 : xv3 = Int32.ofInt v3) (rv3 : inR v3) {xv4 : Int32} {v4 : Int} (ev4 : xv4 = Int32.ofInt v4) (rv4 : inR v4) {xv5 : Nat} {v5 : Int} (ev5 : xv5 = aNd v5) (rv5 : 0 ≤ v5 ∧ v5 ≤ 120) {xv6 : Option Nat} {v6 : Int} (ev6 : xv6 = oBy v6) (rv6 : v6 ≤ 631) (hR : RC w y g n m) : Rf (RS (fun a b => RI a.1 b.1 ∧ RI a.2.1 b.2.1 ∧ RC w y a.2.2 b.2.2 m) (fun a b => RC w y a b m)) (k_Acts_send_190 1789 xv1 xv3 xv4 xv5 xv6 g) (nk_Acts_send_190 v1 v3 v4 v5 v6 n) := by
  subst ev1
  subst ev3
  subst ev4
  subst ev5
  subst ev6
  unfold k_Acts_send_190 nk_Acts_send_190
  refine rf_eq rfl (e_n 0) rv3 (show inR 0 by decide) ?_ ?_
  · refine c_S hR hw (sK0 hR hw) (by decide) (show srf 0 0 19 = some 1795 from rfl) ?_
    refine v_c (bS610 ▸ (ce_by hR hw (by decide))).1 ?_
    refine rf_bind (f_Bytes_add hw bS610.symm (by decide) (e_n 38) (show inR 38 by decide) hR) (fun g6 n4 hR5 => ?_)
    exact fk_Acts_send_203 hw rfl rv1 rfl rv4 rfl rv5 rfl rv6 hR5
  · exact fk_Acts_send_203 hw rfl rv1 rfl rv4 rfl rv5 rfl rv6 hR
noncomputable def nk_Acts_send_159 (v1 : Int) (v3 : Int) (v4 : Int) (v5 : Int) (w0 : Int) (n : NS) : Option ((Int × Int × NS) ⊕ (NS)) :=
  if w0 < 0 then
    ck (v4 + 1) <|
    some (.inl (v3, v4 + 1, n))
  else
    (N_Bytes_isNameWhole w0 n).bind fun z4 =>
    if z4 = 0 then
      ck (v4 + 1) <|
      some (.inl (v3, v4 + 1, n))
    else
      if (n 7 v5 16) = 0 then
        if (n 7 v5 15) = 0 then
          nk_Acts_send_190 v1 v3 v4 v5 w0 n
        else
          ck (v4 + 1) <|
          some (.inl (v3, v4 + 1, n))
      else
        nk_Acts_send_190 v1 v3 v4 v5 w0 n
theorem fk_Acts_send_159 {w y : Prop} {g : g_S} {n : NS} {m : YS} (hw : w) {xv1 : Int32} {v1 : Int} (ev1 : xv1 = Int32.ofInt v1) (rv1 : inR v1) {xv3 : Int32} {v3 : Int} (ev3 : xv3 = Int32.ofInt v3) (rv3 : inR v3) {xv4 : Int32} {v4 : Int} (ev4 : xv4 = Int32.ofInt v4) (rv4 : inR v4) {xv5 : Nat} {v5 : Int} (ev5 : xv5 = aNd v5) (rv5 : 0 ≤ v5 ∧ v5 ≤ 120) {xw0 : Option Nat} {w0 : Int} (ew0 : xw0 = oBy w0) (rw0 : w0 ≤ 631) (hR : RC w y g n m) : Rf (RS (fun a b => RI a.1 b.1 ∧ RI a.2.1 b.2.1 ∧ RC w y a.2.2 b.2.2 m) (fun a b => RC w y a b m)) (k_Acts_send_159 1789 xv1 xv3 xv4 xv5 xw0 g) (nk_Acts_send_159 v1 v3 v4 v5 w0 n) := by
  subst ev1
  subst ev3
  subst ev4
  subst ev5
  subst ew0
  unfold k_Acts_send_159 nk_Acts_send_159
  refine rf_oy (fun h1 => ?_) (fun h1 => ?_)
  · refine v_c (ce_by hR hw (And.intro h1 rw0)).1 ?_
    refine rf_bind (f_Bytes_isNameWhole hw rfl (And.intro h1 rw0) hR) (fun a6 z4 h => ?_)
    obtain ⟨rfl, r5⟩ := h
    refine rf_eq rfl (e_n 0) (inZ.r r5) (show inR 0 by decide) ?_ ?_
    · refine rf_ck (fun h8 => ?_)
      exact rf_ok (by exact ⟨⟨rfl, rv3⟩, ⟨(e_add rfl (e_n 1)), h8⟩, hR⟩)
    · refine c_Z (s := 16) hR (ce_nd hR hw rv5) rfl rfl rfl (fun h9 => ?_)
      refine rf_eq rfl (e_n 0) (inZ.r h9) (show inR 0 by decide) ?_ ?_
      · refine c_Z (s := 15) hR (ce_nd hR hw rv5) rfl rfl rfl (fun h11 => ?_)
        refine rf_eq rfl (e_n 0) (inZ.r h11) (show inR 0 by decide) ?_ ?_
        · exact fk_Acts_send_190 hw rfl rv1 rfl rv3 rfl rv4 rfl rv5 (oy_s (And.intro h1 rw0).1) (And.intro h1 rw0).2 hR
        · refine rf_ck (fun h13 => ?_)
          exact rf_ok (by exact ⟨⟨rfl, rv3⟩, ⟨(e_add rfl (e_n 1)), h13⟩, hR⟩)
      · exact fk_Acts_send_190 hw rfl rv1 rfl rv3 rfl rv4 rfl rv5 (oy_s (And.intro h1 rw0).1) (And.intro h1 rw0).2 hR
  · refine rf_ck (fun h15 => ?_)
    exact rf_ok (by exact ⟨⟨rfl, rv3⟩, ⟨(e_add rfl (e_n 1)), h15⟩, hR⟩)
noncomputable def nb_Acts_send_100 (v1 : Int) (v3 : Int) (v4 : Int) (n : NS) : Option ((Int × Int × NS) ⊕ (NS)) :=
  ix v1 120 <|
  if v4 < (n 7 v1 9) then
    ix v4 120 <|
    ix (n 22 0 v4) 120 <|
    if (n 7 (n 22 0 v4) 0) = 13 then
      (N_Node_read (n 22 0 v4) 1000029 n).bind fun z19 =>
      if z19 < 0 then
        nk_Acts_send_159 v1 v3 v4 (n 22 0 v4) (-1) n
      else
        nk_Acts_send_159 v1 v3 v4 (n 22 0 v4) z19 n
    else
      nk_Acts_send_159 v1 v3 v4 (n 22 0 v4) (-1) n
  else
    some (.inr n)
theorem fb_Acts_send_100 {w y : Prop} {g : g_S} {n : NS} {m : YS} (hw : w) {xv1 : Int32} {v1 : Int} (ev1 : xv1 = Int32.ofInt v1) (rv1 : inR v1) {xv3 : Int32} {v3 : Int} (ev3 : xv3 = Int32.ofInt v3) (rv3 : inR v3) {xv4 : Int32} {v4 : Int} (ev4 : xv4 = Int32.ofInt v4) (rv4 : inR v4) (hR : RC w y g n m) : Rf (RS (fun a b => RI a.1 b.1 ∧ RI a.2.1 b.2.1 ∧ RC w y a.2.2 b.2.2 m) (fun a b => RC w y a b m)) (b_Acts_send_100 1789 xv1 xv3 xv4 g) (nb_Acts_send_100 v1 v3 v4 n) := by
  subst ev1
  subst ev3
  subst ev4
  unfold b_Acts_send_100 nb_Acts_send_100
  refine c_S hR hw (sK0 hR hw) (by decide) (show srf 0 0 0 = some 5 from rfl) ?_
  refine c_S hR hw (sK10 hR hw) (by decide) (show srf 10 0 0 = some 6 from rfl) ?_
  refine s_S (p := aNd (_)) (L := 120) hR hw (sA20 hR hw) (by decide) (lA20 hR hw) rfl rfl rv1 (fun z1 z2 => srf20 z1 z2) (fun h3 => ?_)
  refine c_I (s := 9) hR (ce_nd hR hw (And.intro h3.1 (Int.le_of_lt h3.2))) rfl rfl (fun h5 => ?_)
  refine rf_lt rfl rfl rv4 h5 ?_ ?_
  · refine c_S hR hw (sK0 hR hw) (by decide) (show srf 0 0 0 = some 5 from rfl) ?_
    refine c_S hR hw (sK10 hR hw) (by decide) (show srf 10 0 0 = some 6 from rfl) ?_
    refine c_S hR hw (sK0 hR hw) (by decide) (show srf 0 0 0 = some 5 from rfl) ?_
    refine c_S hR hw (sK10 hR hw) (by decide) (show srf 10 0 2 = some 8 from rfl) ?_
    refine s_I (L := 120) hR (sA22 hR hw) rfl (lA22 hR hw) rfl rfl rv4 (fun h11 h12 => ?_)
    refine s_S (p := aNd (_)) (L := 120) hR hw (sA20 hR hw) (by decide) (lA20 hR hw) rfl rfl h12 (fun z1 z2 => srf20 z1 z2) (fun h13 => ?_)
    refine c_I (s := 0) hR (ce_nd hR hw (And.intro h13.1 (Int.le_of_lt h13.2))) rfl rfl (fun h15 => ?_)
    refine rf_eq rfl (e_n 13) h15 (show inR 13 by decide) ?_ ?_
    · refine v_c (ce_nd hR hw (And.intro h13.1 (Int.le_of_lt h13.2))).1 ?_
      refine rf_bind (f_Node_read hw rfl (And.intro h13.1 (Int.le_of_lt h13.2)) hR) (fun a21 z19 h => ?_)
      obtain ⟨rfl, r20⟩ := h
      refine rf_oy (fun h22 => ?_) (fun h22 => ?_)
      · exact fk_Acts_send_159 hw rfl rv1 rfl rv3 rfl rv4 rfl (And.intro h13.1 (Int.le_of_lt h13.2)) (oy_s (And.intro h22 r20).1) (And.intro h22 r20).2 hR
      · exact fk_Acts_send_159 hw rfl rv1 rfl rv3 rfl rv4 rfl (And.intro h13.1 (Int.le_of_lt h13.2)) oy_n (show (-1 : Int) ≤ 631 by decide) hR
    · exact fk_Acts_send_159 hw rfl rv1 rfl rv3 rfl rv4 rfl (And.intro h13.1 (Int.le_of_lt h13.2)) oy_n (show (-1 : Int) ≤ 631 by decide) hR
  · exact rf_ok (by exact hR)
noncomputable def NL_Acts_send_100 (v1 : Int) (v3 : Int) (v4 : Int) (n : NS) : Option (NS) :=
  it (fun s : Int × Int × NS => nb_Acts_send_100 v1 s.1 s.2.1 s.2.2) (v3, v4, n)
theorem fL_Acts_send_100 {w y : Prop} {g : g_S} {n : NS} {m : YS} (hw : w) {xv1 : Int32} {v1 : Int} (ev1 : xv1 = Int32.ofInt v1) (rv1 : inR v1) {xv3 : Int32} {v3 : Int} (ev3 : xv3 = Int32.ofInt v3) (rv3 : inR v3) {xv4 : Int32} {v4 : Int} (ev4 : xv4 = Int32.ofInt v4) (rv4 : inR v4) (hR : RC w y g n m) : Rf (fun a b => RC w y a b m) (L_Acts_send_100 1789 xv1 xv3 xv4 g) (NL_Acts_send_100 v1 v3 v4 n) := by
  subst ev1
  subst ev3
  subst ev4
  unfold L_Acts_send_100 NL_Acts_send_100
  refine rf_it (I := (fun a b => RI a.1 b.1 ∧ RI a.2.1 b.2.1 ∧ RC w y a.2.2 b.2.2 m)) (fun s t h => ?_) ⟨⟨rfl, rv3⟩, ⟨rfl, rv4⟩, hR⟩
  exact fb_Acts_send_100 hw rfl rv1 h.1.1 h.1.2 h.2.1.1 h.2.1.2 h.2.2
theorem NL_Acts_send_100_eq (v1 : Int) (v3 : Int) (v4 : Int) (n : NS) : NL_Acts_send_100 v1 v3 v4 n = itc (nb_Acts_send_100 v1 v3 v4 n) (fun s => NL_Acts_send_100 v1 s.1 s.2.1 s.2.2) := it_eq2 (fun s : Int × Int × NS => nb_Acts_send_100 v1 s.1 s.2.1 s.2.2) (v3, v4, n)
noncomputable def nk_Acts_send_70 (v1 : Int) (n : NS) : Option (NS) :=
  (N_Bytes_clear 610 n).bind fun n3 =>
  (N_Tree_list n3).bind fun n8 =>
  ix v1 120 <|
  (NL_Acts_send_100 v1 1 (n8 7 v1 8) n8).bind <| fun n16 =>
  ty n16 1584 101 <|
  (N_Address_replaceQuery 1584 610 n16).bind fun n25 =>
  (N_Net_setOff n25).bind fun n30 =>
  some n30
theorem fk_Acts_send_70 {w y : Prop} {g : g_S} {n : NS} {m : YS} (hw : w) {xv1 : Int32} {v1 : Int} (ev1 : xv1 = Int32.ofInt v1) (rv1 : inR v1) (hR : RC w y g n m) : Rf (fun a b => RC w y a b m) (k_Acts_send_70 1789 xv1 g) (nk_Acts_send_70 v1 n) := by
  subst ev1
  unfold k_Acts_send_70 nk_Acts_send_70
  refine c_S hR hw (sK0 hR hw) (by decide) (show srf 0 0 19 = some 1795 from rfl) ?_
  refine v_c (bS610 ▸ (ce_by hR hw (by decide))).1 ?_
  refine rf_bind (f_Bytes_clear hw bS610.symm (by decide) hR) (fun g5 n3 hR4 => ?_)
  refine c_S hR4 hw (sK0 hR4 hw) (by decide) (show srf 0 0 0 = some 5 from rfl) ?_
  refine v_c (sK10 hR4 hw).1 ?_
  refine rf_bind (f_Tree_list hw hR4) (fun g10 n8 hR9 => ?_)
  refine c_S hR9 hw (sK0 hR9 hw) (by decide) (show srf 0 0 0 = some 5 from rfl) ?_
  refine c_S hR9 hw (sK10 hR9 hw) (by decide) (show srf 10 0 0 = some 6 from rfl) ?_
  refine s_S (p := aNd (_)) (L := 120) hR9 hw (sA20 hR9 hw) (by decide) (lA20 hR9 hw) rfl rfl rv1 (fun z1 z2 => srf20 z1 z2) (fun h13 => ?_)
  refine c_I (s := 8) hR9 (ce_nd hR9 hw (And.intro h13.1 (Int.le_of_lt h13.2))) rfl rfl (fun h15 => ?_)
  refine rf_bind (fL_Acts_send_100 hw rfl rv1 (e_n 1) (show inR 1 by decide) rfl h15 hR9) (fun a17 n16 h => ?_)
  have hR18 : RC w y a17 n16 m := h
  refine c_S hR18 hw (sK0 hR18 hw) (by decide) (show srf 0 0 1 = some 1569 from rfl) ?_
  refine c_S hR18 hw (sK6 hR18 hw) (by decide) (show srf 6 0 14 = some 1584 from rfl) ?_
  refine c_S hR18 hw (sK0 hR18 hw) (by decide) (show srf 0 0 19 = some 1795 from rfl) ?_
  refine rf_ty (t := 101) dS1584.1 hR18 (by decide) (fun h23 h24 => ?_)
  refine v_c h23 ?_
  refine rf_bind (f_Address_replaceQuery hw rfl dS1584 bS610.symm (by decide) hR18) (fun g27 n25 hR26 => ?_)
  refine c_S hR26 hw (sK0 hR26 hw) (by decide) (show srf 0 0 1 = some 1569 from rfl) ?_
  refine v_c (sK6 hR26 hw).1 ?_
  refine rf_bind (f_Net_setOff hw hR26) (fun g32 n30 hR31 => ?_)
  exact rf_ok (by exact hR31)
noncomputable def N_Acts_send (v1 : Int) (n : NS) : Option (NS) :=
  ix v1 120 <|
  (N_Node_read v1 1000028 n).bind fun z7 =>
  if z7 < 0 then
    ty n 1584 101 <|
    (N_Address_copy 1584 1582 n).bind fun n37 =>
    nk_Acts_send_70 v1 n37
  else
    nn (n 4 z7 1) <|
    ty n 1584 101 <|
    (N_Address_read 1584 (n 4 z7 1) 0 (n 4 z7 2) 1582 n).bind <| u2 fun z21 n24 =>
    if z21 = 0 then
      some n24
    else
      nk_Acts_send_70 v1 n24
theorem f_Acts_send {w y : Prop} {g : g_S} {n : NS} {m : YS} (hw : w) {xv1 : Int32} {v1 : Int} (ev1 : xv1 = Int32.ofInt v1) (rv1 : inR v1) (hR : RC w y g n m) : Rf (fun a b => RC w y a b m) (M_Acts_send 1789 xv1 g) (N_Acts_send v1 n) := by
  subst ev1
  unfold M_Acts_send N_Acts_send
  refine c_S hR hw (sK0 hR hw) (by decide) (show srf 0 0 0 = some 5 from rfl) ?_
  refine c_S hR hw (sK10 hR hw) (by decide) (show srf 10 0 0 = some 6 from rfl) ?_
  refine s_S (p := aNd (_)) (L := 120) hR hw (sA20 hR hw) (by decide) (lA20 hR hw) rfl rfl rv1 (fun z1 z2 => srf20 z1 z2) (fun h3 => ?_)
  refine v_c (ce_nd hR hw (And.intro h3.1 (Int.le_of_lt h3.2))).1 ?_
  refine rf_bind (f_Node_read hw rfl (And.intro h3.1 (Int.le_of_lt h3.2)) hR) (fun a9 z7 h => ?_)
  obtain ⟨rfl, r8⟩ := h
  refine rf_oy (fun h10 => ?_) (fun h10 => ?_)
  · refine c_S hR hw (sK0 hR hw) (by decide) (show srf 0 0 1 = some 1569 from rfl) ?_
    refine c_S hR hw (sK6 hR hw) (by decide) (show srf 6 0 14 = some 1584 from rfl) ?_
    refine c_D (s := 1) hR (ce_by hR hw (And.intro h10 r8)) rfl rfl rfl (fun h14 => ?_)
    refine c_I (s := 2) hR (ce_by hR hw (And.intro h10 r8)) rfl rfl (fun h15 => ?_)
    refine c_S hR hw (sK0 hR hw) (by decide) (show srf 0 0 1 = some 1569 from rfl) ?_
    refine c_S hR hw (sK6 hR hw) (by decide) (show srf 6 0 13 = some 1582 from rfl) ?_
    refine rf_ty (t := 101) dS1584.1 hR (by decide) (fun h19 h20 => ?_)
    refine v_c2 h19 ?_
    refine rf_c2 (f_Address_read rfl dS1584 rfl h14 (e_n 0) (show inR 0 by decide) rfl h15 rfl dS1582 hR) (fun a23 g26 b h => ?_)
    obtain ⟨z21, n24⟩ := b
    refine rf_v2 ?_
    obtain ⟨rfl, r22⟩ := (show RZ a23 z21 from h.1)
    have hR25 : RC w y g26 n24 m := h.2
    refine rf_eq rfl (e_n 0) (inZ.r r22) (show inR 0 by decide) ?_ ?_
    · exact rf_ok (by exact hR25)
    · exact fk_Acts_send_70 hw rfl rv1 hR25
  · refine c_S hR hw (sK0 hR hw) (by decide) (show srf 0 0 1 = some 1569 from rfl) ?_
    refine c_S hR hw (sK6 hR hw) (by decide) (show srf 6 0 14 = some 1584 from rfl) ?_
    refine c_S hR hw (sK0 hR hw) (by decide) (show srf 0 0 1 = some 1569 from rfl) ?_
    refine c_S hR hw (sK6 hR hw) (by decide) (show srf 6 0 13 = some 1582 from rfl) ?_
    refine rf_ty (t := 101) dS1584.1 hR (by decide) (fun h35 h36 => ?_)
    refine v_c h35 ?_
    refine rf_bind (f_Address_copy rfl dS1584 rfl dS1582 hR) (fun g39 n37 hR38 => ?_)
    exact fk_Acts_send_70 hw rfl rv1 hR38
noncomputable def N_Acts_typeKey (v1 : Int) (n : NS) : Option (NS) :=
  (N_Tree_alive (n 0 0 6) n).bind fun z4 =>
  if z4 = (-1) then
    some n
  else
    ix z4 120 <|
    if v1 = 8 then
      (N_Bytes_dropLast (5 * z4) n).bind fun n16 =>
      some n16
    else
      if v1 = 10 then
        (N_Tree_around z4 5 n).bind fun z23 =>
        if z23 = (-1) then
          some n
        else
          (N_Tree_around z4 5 n).bind fun z30 =>
          (N_Acts_send z30 n).bind fun n34 =>
          some n34
      else
        if (n 4 (5 * z4) 2) < 24 then
          (N_Bytes_add (5 * z4) v1 n).bind fun n41 =>
          some n41
        else
          some n
theorem f_Acts_typeKey {w y : Prop} {g : g_S} {n : NS} {m : YS} (hw : w) {xv1 : Int32} {v1 : Int} (ev1 : xv1 = Int32.ofInt v1) (rv1 : inR v1) (hR : RC w y g n m) : Rf (fun a b => RC w y a b m) (M_Acts_typeKey 1789 xv1 g) (N_Acts_typeKey v1 n) := by
  subst ev1
  unfold M_Acts_typeKey N_Acts_typeKey
  refine c_S hR hw (sK0 hR hw) (by decide) (show srf 0 0 0 = some 5 from rfl) ?_
  refine c_L (s := 6) hR (sK0 hR hw) rfl rfl (fun h2 => ?_)
  refine v_c (sK10 hR hw).1 ?_
  refine rf_bind (f_Tree_alive hw rfl h2 hR) (fun a6 z4 h => ?_)
  obtain ⟨rfl, r5⟩ := h
  refine rf_eq rfl (e_m 1) r5 (show inR (-1) by decide) ?_ ?_
  · exact rf_ok (by exact hR)
  · refine c_S hR hw (sK0 hR hw) (by decide) (show srf 0 0 0 = some 5 from rfl) ?_
    refine c_S hR hw (sK10 hR hw) (by decide) (show srf 10 0 0 = some 6 from rfl) ?_
    refine s_S (p := aNd (_)) (L := 120) hR hw (sA20 hR hw) (by decide) (lA20 hR hw) rfl rfl r5 (fun z1 z2 => srf20 z1 z2) (fun h11 => ?_)
    refine c_S (p := _) hR hw (ce_nd hR hw (And.intro h11.1 (Int.le_of_lt h11.2))) (Nat.lt_trans (nd_lt (And.intro h11.1 (Int.le_of_lt h11.2))).1 (by decide)) rfl ?_
    refine rf_eq rfl (e_n 8) rv1 (show inR 8 by decide) ?_ ?_
    · refine v_c (ce_by hR hw (by5 (And.intro h11.1 (Int.le_of_lt h11.2)))).1 ?_
      refine rf_bind (f_Bytes_dropLast hw rfl (by5 (And.intro h11.1 (Int.le_of_lt h11.2))) hR) (fun g18 n16 hR17 => ?_)
      exact rf_ok (by exact hR17)
    · refine rf_eq rfl (e_n 10) rv1 (show inR 10 by decide) ?_ ?_
      · refine c_S hR hw (sK0 hR hw) (by decide) (show srf 0 0 0 = some 5 from rfl) ?_
        refine v_c (sK10 hR hw).1 ?_
        refine rf_bind (f_Tree_around hw rfl r5 (e_n 5) (show inR 5 by decide) hR) (fun a25 z23 h => ?_)
        obtain ⟨rfl, r24⟩ := h
        refine rf_eq rfl (e_m 1) r24 (show inR (-1) by decide) ?_ ?_
        · exact rf_ok (by exact hR)
        · refine c_S hR hw (sK0 hR hw) (by decide) (show srf 0 0 0 = some 5 from rfl) ?_
          refine v_c (sK10 hR hw).1 ?_
          refine rf_bind (f_Tree_around hw rfl r5 (e_n 5) (show inR 5 by decide) hR) (fun a32 z30 h => ?_)
          obtain ⟨rfl, r31⟩ := h
          refine v_c (sK0 hR hw).1 ?_
          refine rf_bind (f_Acts_send hw rfl r31 hR) (fun g36 n34 hR35 => ?_)
          exact rf_ok (by exact hR35)
      · refine c_I (s := 2) hR (ce_by hR hw (by5 (And.intro h11.1 (Int.le_of_lt h11.2)))) rfl rfl (fun h38 => ?_)
        refine rf_lt rfl (e_n 24) h38 (show inR 24 by decide) ?_ ?_
        · refine v_c (ce_by hR hw (by5 (And.intro h11.1 (Int.le_of_lt h11.2)))).1 ?_
          refine rf_bind (f_Bytes_add hw rfl (by5 (And.intro h11.1 (Int.le_of_lt h11.2))) rfl rv1 hR) (fun g43 n41 hR42 => ?_)
          exact rf_ok (by exact hR42)
        · exact rf_ok (by exact hR)
noncomputable def nk_Acts_pressOn_140 (v3 : Int) (n : NS) : Option (Int × NS) :=
  if v3 = (-1) then
    some (0, n)
  else
    some (1, n)
theorem fk_Acts_pressOn_140 {w y : Prop} {g : g_S} {n : NS} {m : YS} (hw : w) {xv3 : Int32} {v3 : Int} (ev3 : xv3 = Int32.ofInt v3) (rv3 : inR v3) (hR : RC w y g n m) : Rf (fun a b => RZ a.1 b.1 ∧ RC w y a.2 b.2 m) (k_Acts_pressOn_140 xv3 g) (nk_Acts_pressOn_140 v3 n) := by
  subst ev3
  unfold k_Acts_pressOn_140 nk_Acts_pressOn_140
  refine rf_eq rfl (e_m 1) rv3 (show inR (-1) by decide) ?_ ?_
  · exact rf_ok (by exact ⟨⟨(e_n 0), (.inl rfl)⟩, hR⟩)
  · exact rf_ok (by exact ⟨⟨(e_n 1), (.inr rfl)⟩, hR⟩)
noncomputable def nk_Acts_pressOn_129 (w0 : Int) (n : NS) : Option (Int × NS) :=
  if w0 = (-1) then
    nk_Acts_pressOn_140 w0 n
  else
    (N_Acts_send w0 n).bind fun n3 =>
    nk_Acts_pressOn_140 w0 n3
theorem fk_Acts_pressOn_129 {w y : Prop} {g : g_S} {n : NS} {m : YS} (hw : w) {xw0 : Int32} {w0 : Int} (ew0 : xw0 = Int32.ofInt w0) (rw0 : inR w0) (hR : RC w y g n m) : Rf (fun a b => RZ a.1 b.1 ∧ RC w y a.2 b.2 m) (k_Acts_pressOn_129 1789 xw0 g) (nk_Acts_pressOn_129 w0 n) := by
  subst ew0
  unfold k_Acts_pressOn_129 nk_Acts_pressOn_129
  refine rf_eq rfl (e_m 1) rw0 (show inR (-1) by decide) ?_ ?_
  · exact fk_Acts_pressOn_140 hw rfl rw0 hR
  · refine v_c (sK0 hR hw).1 ?_
    refine rf_bind (f_Acts_send hw rfl rw0 hR) (fun g5 n3 hR4 => ?_)
    exact fk_Acts_pressOn_140 hw rfl rw0 hR4
noncomputable def nk_Acts_pressOn_87 (w0 : Int) (w1 : Int) (n : NS) : Option (Int × NS) :=
  cz w0 <|
  st (nw n 7 w1 16 w0) fun n3 =>
  some (1, n3)
theorem fk_Acts_pressOn_87 {w y : Prop} {g : g_S} {n : NS} {m : YS} (hw : w) {xw0 : Int32} {w0 : Int} (ew0 : xw0 = Int32.ofInt w0) (rw0 : inR w0) {xw1 : Nat} {w1 : Int} (ew1 : xw1 = aNd w1) (rw1 : 0 ≤ w1 ∧ w1 ≤ 120) (hR : RC w y g n m) : Rf (fun a b => RZ a.1 b.1 ∧ RC w y a.2 b.2 m) (k_Acts_pressOn_87 xw0 xw1 g) (nk_Acts_pressOn_87 w0 w1 n) := by
  subst ew0
  subst ew1
  unfold k_Acts_pressOn_87 nk_Acts_pressOn_87
  refine rf_cz (fun h2 => ?_)
  refine p_Z (s := 16) hR (ce_nd hR hw rw1) rfl ⟨rfl, by decide⟩ rfl h2 (fun g5 n3 hR4 => ?_)
  exact rf_ok (by exact ⟨⟨(e_n 1), (.inr rfl)⟩, hR4⟩)
noncomputable def nk_Acts_pressOn_48 (v3 : Int) (n : NS) : Option (Int × NS) :=
  if v3 < 0 then
    some (0, n)
  else
    some (1, n)
theorem fk_Acts_pressOn_48 {w y : Prop} {g : g_S} {n : NS} {m : YS} (hw : w) {xv3 : Option Nat} {v3 : Int} (ev3 : xv3 = oBy v3) (rv3 : v3 ≤ 631) (hR : RC w y g n m) : Rf (fun a b => RZ a.1 b.1 ∧ RC w y a.2 b.2 m) (k_Acts_pressOn_48 xv3 g) (nk_Acts_pressOn_48 v3 n) := by
  subst ev3
  unfold k_Acts_pressOn_48 nk_Acts_pressOn_48
  refine rf_oy (fun h1 => ?_) (fun h1 => ?_)
  · exact rf_ok (by exact ⟨⟨(e_n 1), (.inr rfl)⟩, hR⟩)
  · exact rf_ok (by exact ⟨⟨(e_n 0), (.inl rfl)⟩, hR⟩)
noncomputable def N_Acts_pressOn (v1 : Int) (n : NS) : Option (Int × NS) :=
  ix v1 120 <|
  if (n 7 v1 0) = 7 then
    (N_Node_read v1 1000031 n).bind fun z9 =>
    if z9 < 0 then
      nk_Acts_pressOn_48 (-1) n
    else
      nn (n 4 z9 1) <|
      (N_Net_aim (n 4 z9 1) 0 (n 4 z9 2) n).bind <| u2 fun z18 n21 =>
      nk_Acts_pressOn_48 z9 n21
  else
    if (n 7 v1 0) = 13 then
      if (n 7 v1 15) = 0 then
        (N_Tree_markOf v1 n).bind fun z31 =>
        st (nw n 0 0 6 z31) fun n35 =>
        some (1, n35)
      else
        if (n 7 v1 16) = 0 then
          nk_Acts_pressOn_87 1 v1 n
        else
          nk_Acts_pressOn_87 0 v1 n
    else
      if (n 7 v1 0) = 14 then
        (N_Tree_around v1 5 n).bind fun z45 =>
        nk_Acts_pressOn_129 z45 n
      else
        nk_Acts_pressOn_129 (-1) n
theorem f_Acts_pressOn {w y : Prop} {g : g_S} {n : NS} {m : YS} (hw : w) {xv1 : Int32} {v1 : Int} (ev1 : xv1 = Int32.ofInt v1) (rv1 : inR v1) (hR : RC w y g n m) : Rf (fun a b => RZ a.1 b.1 ∧ RC w y a.2 b.2 m) (M_Acts_pressOn 1789 xv1 g) (N_Acts_pressOn v1 n) := by
  subst ev1
  unfold M_Acts_pressOn N_Acts_pressOn
  refine c_S hR hw (sK0 hR hw) (by decide) (show srf 0 0 0 = some 5 from rfl) ?_
  refine c_S hR hw (sK10 hR hw) (by decide) (show srf 10 0 0 = some 6 from rfl) ?_
  refine s_S (p := aNd (_)) (L := 120) hR hw (sA20 hR hw) (by decide) (lA20 hR hw) rfl rfl rv1 (fun z1 z2 => srf20 z1 z2) (fun h3 => ?_)
  refine c_I (s := 0) hR (ce_nd hR hw (And.intro h3.1 (Int.le_of_lt h3.2))) rfl rfl (fun h5 => ?_)
  refine rf_eq rfl (e_n 7) h5 (show inR 7 by decide) ?_ ?_
  · refine v_c (ce_nd hR hw (And.intro h3.1 (Int.le_of_lt h3.2))).1 ?_
    refine rf_bind (f_Node_read hw rfl (And.intro h3.1 (Int.le_of_lt h3.2)) hR) (fun a11 z9 h => ?_)
    obtain ⟨rfl, r10⟩ := h
    refine rf_oy (fun h12 => ?_) (fun h12 => ?_)
    · refine c_S hR hw (sK0 hR hw) (by decide) (show srf 0 0 1 = some 1569 from rfl) ?_
      refine c_D (s := 1) hR (ce_by hR hw (And.intro h12 r10)) rfl rfl rfl (fun h15 => ?_)
      refine c_I (s := 2) hR (ce_by hR hw (And.intro h12 r10)) rfl rfl (fun h16 => ?_)
      refine v_c2 (sK6 hR hw).1 ?_
      refine rf_c2 (f_Net_aim hw rfl h15 (e_n 0) (show inR 0 by decide) rfl h16 hR) (fun a20 g23 b h => ?_)
      obtain ⟨z18, n21⟩ := b
      refine rf_v2 ?_
      obtain ⟨rfl, r19⟩ := (show RZ a20 z18 from h.1)
      have hR22 : RC w y g23 n21 m := h.2
      exact fk_Acts_pressOn_48 hw (oy_s (And.intro h12 r10).1) (And.intro h12 r10).2 hR22
    · exact fk_Acts_pressOn_48 hw oy_n (show (-1 : Int) ≤ 631 by decide) hR
  · refine c_I (s := 0) hR (ce_nd hR hw (And.intro h3.1 (Int.le_of_lt h3.2))) rfl rfl (fun h25 => ?_)
    refine rf_eq rfl (e_n 13) h25 (show inR 13 by decide) ?_ ?_
    · refine c_Z (s := 15) hR (ce_nd hR hw (And.intro h3.1 (Int.le_of_lt h3.2))) rfl rfl rfl (fun h27 => ?_)
      refine rf_eq rfl (e_n 0) (inZ.r h27) (show inR 0 by decide) ?_ ?_
      · refine c_S hR hw (sK0 hR hw) (by decide) (show srf 0 0 0 = some 5 from rfl) ?_
        refine v_c (sK10 hR hw).1 ?_
        refine rf_bind (f_Tree_markOf hw rfl rv1 hR) (fun a33 z31 h => ?_)
        obtain ⟨rfl, r32⟩ := h
        refine p_L (s := 6) hR (sK0 hR hw) rfl rfl rfl r32 (fun g37 n35 hR36 => ?_)
        exact rf_ok (by exact ⟨⟨(e_n 1), (.inr rfl)⟩, hR36⟩)
      · refine c_Z (s := 16) hR (ce_nd hR hw (And.intro h3.1 (Int.le_of_lt h3.2))) rfl rfl rfl (fun h39 => ?_)
        refine rf_eq rfl (e_n 0) (inZ.r h39) (show inR 0 by decide) ?_ ?_
        · exact fk_Acts_pressOn_87 hw (e_n 1) (show inR 1 by decide) rfl (And.intro h3.1 (Int.le_of_lt h3.2)) hR
        · exact fk_Acts_pressOn_87 hw (e_n 0) (show inR 0 by decide) rfl (And.intro h3.1 (Int.le_of_lt h3.2)) hR
    · refine c_I (s := 0) hR (ce_nd hR hw (And.intro h3.1 (Int.le_of_lt h3.2))) rfl rfl (fun h41 => ?_)
      refine rf_eq rfl (e_n 14) h41 (show inR 14 by decide) ?_ ?_
      · refine c_S hR hw (sK0 hR hw) (by decide) (show srf 0 0 0 = some 5 from rfl) ?_
        refine v_c (sK10 hR hw).1 ?_
        refine rf_bind (f_Tree_around hw rfl rv1 (e_n 5) (show inR 5 by decide) hR) (fun a47 z45 h => ?_)
        obtain ⟨rfl, r46⟩ := h
        exact fk_Acts_pressOn_129 hw rfl r46 hR
      · exact fk_Acts_pressOn_129 hw (e_m 1) (show inR (-1) by decide) hR
noncomputable def nb_Acts_doDefault_32 (v2 : Int) (v3 : Int) (n : NS) : Option ((Int × Int × NS) ⊕ (NS)) :=
  if v3 < (n 0 0 16) then
    if v2 = 0 then
      ix v3 120 <|
      (N_Tree_alive (n 46 0 v3) n).bind fun z9 =>
      if z9 = (-1) then
        ck (v3 + 1) <|
        some (.inl (0, v3 + 1, n))
      else
        (N_Acts_pressOn z9 n).bind <| u2 fun z15 n18 =>
        if z15 = 0 then
          ck (v3 + 1) <|
          some (.inl (0, v3 + 1, n18))
        else
          ck (v3 + 1) <|
          some (.inl (1, v3 + 1, n18))
    else
      some (.inr n)
  else
    some (.inr n)
theorem fb_Acts_doDefault_32 {w y : Prop} {g : g_S} {n : NS} {m : YS} (hw : w) {xv2 : Int32} {v2 : Int} (ev2 : xv2 = Int32.ofInt v2) (rv2 : inR v2) {xv3 : Int32} {v3 : Int} (ev3 : xv3 = Int32.ofInt v3) (rv3 : inR v3) (hR : RC w y g n m) : Rf (RS (fun a b => RI a.1 b.1 ∧ RI a.2.1 b.2.1 ∧ RC w y a.2.2 b.2.2 m) (fun a b => RC w y a b m)) (b_Acts_doDefault_32 1789 xv2 xv3 g) (nb_Acts_doDefault_32 v2 v3 n) := by
  subst ev2
  subst ev3
  unfold b_Acts_doDefault_32 nb_Acts_doDefault_32
  refine c_I (s := 16) hR (sK0 hR hw) rfl rfl (fun h1 => ?_)
  refine rf_lt rfl rfl rv3 h1 ?_ ?_
  · refine rf_eq rfl (e_n 0) rv2 (show inR 0 by decide) ?_ ?_
    · refine c_S hR hw (sK0 hR hw) (by decide) (show srf 0 0 0 = some 5 from rfl) ?_
      refine c_S hR hw (sK0 hR hw) (by decide) (show srf 0 0 14 = some 1794 from rfl) ?_
      refine s_L (L := 120) hR (sA46 hR hw) (lA46 hR hw) rfl rfl rv3 (fun h6 h7 => ?_)
      refine v_c (sK10 hR hw).1 ?_
      refine rf_bind (f_Tree_alive hw rfl h7 hR) (fun a11 z9 h => ?_)
      obtain ⟨rfl, r10⟩ := h
      refine rf_eq rfl (e_m 1) r10 (show inR (-1) by decide) ?_ ?_
      · refine rf_ck (fun h13 => ?_)
        exact rf_ok (by exact ⟨⟨(e_n 0), (show inR 0 by decide)⟩, ⟨(e_add rfl (e_n 1)), h13⟩, hR⟩)
      · refine v_c2 (sK0 hR hw).1 ?_
        refine rf_c2 (f_Acts_pressOn hw rfl r10 hR) (fun a17 g20 b h => ?_)
        obtain ⟨z15, n18⟩ := b
        refine rf_v2 ?_
        obtain ⟨rfl, r16⟩ := (show RZ a17 z15 from h.1)
        have hR19 : RC w y g20 n18 m := h.2
        refine rf_eq rfl (e_n 0) (inZ.r r16) (show inR 0 by decide) ?_ ?_
        · refine rf_ck (fun h22 => ?_)
          exact rf_ok (by exact ⟨⟨(e_n 0), (show inR 0 by decide)⟩, ⟨(e_add rfl (e_n 1)), h22⟩, hR19⟩)
        · refine rf_ck (fun h23 => ?_)
          exact rf_ok (by exact ⟨⟨(e_n 1), (show inR 1 by decide)⟩, ⟨(e_add rfl (e_n 1)), h23⟩, hR19⟩)
    · exact rf_ok (by exact hR)
  · exact rf_ok (by exact hR)
noncomputable def NL_Acts_doDefault_32 (v2 : Int) (v3 : Int) (n : NS) : Option (NS) :=
  it (fun s : Int × Int × NS => nb_Acts_doDefault_32 s.1 s.2.1 s.2.2) (v2, v3, n)
theorem fL_Acts_doDefault_32 {w y : Prop} {g : g_S} {n : NS} {m : YS} (hw : w) {xv2 : Int32} {v2 : Int} (ev2 : xv2 = Int32.ofInt v2) (rv2 : inR v2) {xv3 : Int32} {v3 : Int} (ev3 : xv3 = Int32.ofInt v3) (rv3 : inR v3) (hR : RC w y g n m) : Rf (fun a b => RC w y a b m) (L_Acts_doDefault_32 1789 xv2 xv3 g) (NL_Acts_doDefault_32 v2 v3 n) := by
  subst ev2
  subst ev3
  unfold L_Acts_doDefault_32 NL_Acts_doDefault_32
  refine rf_it (I := (fun a b => RI a.1 b.1 ∧ RI a.2.1 b.2.1 ∧ RC w y a.2.2 b.2.2 m)) (fun s t h => ?_) ⟨⟨rfl, rv2⟩, ⟨rfl, rv3⟩, hR⟩
  exact fb_Acts_doDefault_32 hw h.1.1 h.1.2 h.2.1.1 h.2.1.2 h.2.2
theorem NL_Acts_doDefault_32_eq (v2 : Int) (v3 : Int) (n : NS) : NL_Acts_doDefault_32 v2 v3 n = itc (nb_Acts_doDefault_32 v2 v3 n) (fun s => NL_Acts_doDefault_32 s.1 s.2.1 s.2.2) := it_eq2 (fun s : Int × Int × NS => nb_Acts_doDefault_32 s.1 s.2.1 s.2.2) (v2, v3, n)
noncomputable def N_Acts_doDefault (n : NS) : Option (NS) :=
  st (nw n 0 0 18 0) fun n3 =>
  if (n 0 0 18) = (-1) then
    st (nw n3 0 0 6 (-1)) fun n9 =>
    (NL_Acts_doDefault_32 0 0 n9).bind <| fun n12 =>
    some n12
  else
    (N_Acts_typeKey (n 0 0 18) n3).bind fun n17 =>
    some n17
theorem f_Acts_doDefault {w y : Prop} {g : g_S} {n : NS} {m : YS} (hw : w) (hR : RC w y g n m) : Rf (fun a b => RC w y a b m) (M_Acts_doDefault 1789 g) (N_Acts_doDefault n) := by
  unfold M_Acts_doDefault N_Acts_doDefault
  refine c_I (s := 18) hR (sK0 hR hw) rfl rfl (fun h1 => ?_)
  refine p_I (s := 18) hR (sK0 hR hw) rfl ⟨rfl, rfl, by decide⟩ (e_n 0) (show inR 0 by decide) (fun g5 n3 hR4 => ?_)
  refine rf_eq rfl (e_m 1) h1 (show inR (-1) by decide) ?_ ?_
  · refine p_L (s := 6) hR4 (sK0 hR4 hw) rfl rfl (f_m 1) (show inL (-1) by decide) (fun g11 n9 hR10 => ?_)
    refine rf_bind (fL_Acts_doDefault_32 hw (e_n 0) (show inR 0 by decide) (e_n 0) (show inR 0 by decide) hR10) (fun a13 n12 h => ?_)
    have hR14 : RC w y a13 n12 m := h
    exact rf_ok (by exact hR14)
  · refine v_c (sK0 hR4 hw).1 ?_
    refine rf_bind (f_Acts_typeKey hw rfl h1 hR4) (fun g19 n17 hR18 => ?_)
    exact rf_ok (by exact hR18)
noncomputable def nb_Acts_settle_2 (v1 : Int) (n : NS) : Option ((Int × NS) ⊕ ((NS) ⊕ (NS) ⊕ (NS))) :=
  if v1 < 1000000 then
    if (n 6 0 16) = 0 then
      if (n 0 0 17) = (-1) then
        if (n 0 0 9) = 0 then
          some (.inr (.inl n))
        else
          if (n 0 0 12) < (n 4 609 2) then
            (N_Acts_runNext n).bind fun n15 =>
            ck (v1 + 1) <|
            some (.inl (v1 + 1, n15))
          else
            if (n 0 0 15) < (n 0 0 16) then
              (N_Acts_listenNext n).bind fun n23 =>
              ck (v1 + 1) <|
              some (.inl (v1 + 1, n23))
            else
              if (n 0 0 18) = 0 then
                some (.inr (.inr (.inl n)))
              else
                (N_Acts_doDefault n).bind fun n30 =>
                ck (v1 + 1) <|
                some (.inl (v1 + 1, n30))
      else
        (N_Acts_finishGet n).bind fun n35 =>
        ck (v1 + 1) <|
        some (.inl (v1 + 1, n35))
    else
      (N_Net_arrive n).bind <| u2 fun z41 n44 =>
      ty n44 z41 102 <|
      nn (n44 99 z41 6) <|
      ty n44 z41 102 <|
      nn (n44 99 z41 6) <|
      ty n44 (n44 99 z41 6) 1 <|
      ck (n44 93 0 (n44 99 z41 6)) <|
      (N_Reader_read (n44 99 z41 6) (n44 93 0 (n44 99 z41 6)) n44).bind fun n57 =>
      (N_Acts_startPage n57).bind fun n61 =>
      ck (v1 + 1) <|
      some (.inl (v1 + 1, n61))
  else
    some (.inr (.inr (.inr n)))
theorem fb_Acts_settle_2 {w y : Prop} {g : g_S} {n : NS} {m : YS} (hw : w) {xv1 : Int32} {v1 : Int} (ev1 : xv1 = Int32.ofInt v1) (rv1 : inR v1) (hR : RC w y g n m) : Rf (RS (fun a b => RI a.1 b.1 ∧ RC w y a.2 b.2 m) (RS (fun a b => RC w y a b m) (RS (fun a b => RC w y a b m) (fun a b => RC w y a b m)))) (b_Acts_settle_2 1789 xv1 g) (nb_Acts_settle_2 v1 n) := by
  subst ev1
  unfold b_Acts_settle_2 nb_Acts_settle_2
  refine rf_lt rfl (e_n 1000000) rv1 (show inR 1000000 by decide) ?_ ?_
  · refine c_S hR hw (sK0 hR hw) (by decide) (show srf 0 0 1 = some 1569 from rfl) ?_
    refine c_I (s := 16) hR (sK6 hR hw) rfl rfl (fun h4 => ?_)
    refine rf_eq rfl (e_n 0) h4 (show inR 0 by decide) ?_ ?_
    · refine c_I (s := 17) hR (sK0 hR hw) rfl rfl (fun h6 => ?_)
      refine rf_eq rfl (e_m 1) h6 (show inR (-1) by decide) ?_ ?_
      · refine c_I (s := 9) hR (sK0 hR hw) rfl rfl (fun h8 => ?_)
        refine rf_eq rfl (e_n 0) h8 (show inR 0 by decide) ?_ ?_
        · exact rf_ok (by exact hR)
        · refine c_I (s := 12) hR (sK0 hR hw) rfl rfl (fun h10 => ?_)
          refine c_S hR hw (sK0 hR hw) (by decide) (show srf 0 0 11 = some 1792 from rfl) ?_
          refine c_I (s := 2) hR (bS609 ▸ (ce_by hR hw (by decide))) rfl rfl (fun h12 => ?_)
          refine rf_lt rfl rfl h10 h12 ?_ ?_
          · refine v_c (sK0 hR hw).1 ?_
            refine rf_bind (f_Acts_runNext hw hR) (fun g17 n15 hR16 => ?_)
            refine rf_ck (fun h18 => ?_)
            exact rf_ok (by exact ⟨⟨(e_add rfl (e_n 1)), h18⟩, hR16⟩)
          · refine c_I (s := 15) hR (sK0 hR hw) rfl rfl (fun h19 => ?_)
            refine c_I (s := 16) hR (sK0 hR hw) rfl rfl (fun h20 => ?_)
            refine rf_lt rfl rfl h19 h20 ?_ ?_
            · refine v_c (sK0 hR hw).1 ?_
              refine rf_bind (f_Acts_listenNext hw hR) (fun g25 n23 hR24 => ?_)
              refine rf_ck (fun h26 => ?_)
              exact rf_ok (by exact ⟨⟨(e_add rfl (e_n 1)), h26⟩, hR24⟩)
            · refine c_I (s := 18) hR (sK0 hR hw) rfl rfl (fun h27 => ?_)
              refine rf_eq rfl (e_n 0) h27 (show inR 0 by decide) ?_ ?_
              · exact rf_ok (by exact hR)
              · refine v_c (sK0 hR hw).1 ?_
                refine rf_bind (f_Acts_doDefault hw hR) (fun g32 n30 hR31 => ?_)
                refine rf_ck (fun h33 => ?_)
                exact rf_ok (by exact ⟨⟨(e_add rfl (e_n 1)), h33⟩, hR31⟩)
      · refine v_c (sK0 hR hw).1 ?_
        refine rf_bind (f_Acts_finishGet hw hR) (fun g37 n35 hR36 => ?_)
        refine rf_ck (fun h38 => ?_)
        exact rf_ok (by exact ⟨⟨(e_add rfl (e_n 1)), h38⟩, hR36⟩)
    · refine c_S hR hw (sK0 hR hw) (by decide) (show srf 0 0 1 = some 1569 from rfl) ?_
      refine v_c2 (sK6 hR hw).1 ?_
      refine rf_c2 (f_Net_arrive hw hR) (fun a43 g46 b h => ?_)
      obtain ⟨z41, n44⟩ := b
      refine rf_v2 ?_
      obtain ⟨rfl, r42⟩ := (show RD a43 z41 from h.1)
      have hR45 : RC w y g46 n44 m := h.2
      refine c_S hR45 hw (sK0 hR45 hw) (by decide) (show srf 0 0 2 = some 1631 from rfl) ?_
      refine rf_ty (t := 102) r42.1 hR45 (by decide) (fun h49 h50 => ?_)
      refine c_D (s := 6) hR45 (ce_dy hR45 r42 h50 (by decide)) rfl rfl rfl (fun h48 => ?_)
      refine rf_ty (t := 102) r42.1 hR45 (by decide) (fun h52 h53 => ?_)
      refine c_D (s := 6) hR45 (ce_dy hR45 r42 h53 (by decide)) rfl rfl rfl (fun h51 => ?_)
      refine d_N (t := 1) hR45 h51 (by decide) (fun h54 h55 => ?_)
      refine v_c (sK8 hR45 hw).1 ?_
      refine rf_bind (f_Reader_read hw rfl h48 rfl h54 hR45) (fun g59 n57 hR58 => ?_)
      refine v_c (sK0 hR58 hw).1 ?_
      refine rf_bind (f_Acts_startPage hw hR58) (fun g63 n61 hR62 => ?_)
      refine rf_ck (fun h64 => ?_)
      exact rf_ok (by exact ⟨⟨(e_add rfl (e_n 1)), h64⟩, hR62⟩)
  · exact rf_ok (by exact hR)
noncomputable def NL_Acts_settle_2 (v1 : Int) (n : NS) : Option ((NS) ⊕ (NS) ⊕ (NS)) :=
  it (fun s : Int × NS => nb_Acts_settle_2 s.1 s.2) (v1, n)
theorem fL_Acts_settle_2 {w y : Prop} {g : g_S} {n : NS} {m : YS} (hw : w) {xv1 : Int32} {v1 : Int} (ev1 : xv1 = Int32.ofInt v1) (rv1 : inR v1) (hR : RC w y g n m) : Rf (RS (fun a b => RC w y a b m) (RS (fun a b => RC w y a b m) (fun a b => RC w y a b m))) (L_Acts_settle_2 1789 xv1 g) (NL_Acts_settle_2 v1 n) := by
  subst ev1
  unfold L_Acts_settle_2 NL_Acts_settle_2
  refine rf_it (I := (fun a b => RI a.1 b.1 ∧ RC w y a.2 b.2 m)) (fun s t h => ?_) ⟨⟨rfl, rv1⟩, hR⟩
  exact fb_Acts_settle_2 hw h.1.1 h.1.2 h.2
theorem NL_Acts_settle_2_eq (v1 : Int) (n : NS) : NL_Acts_settle_2 v1 n = itc (nb_Acts_settle_2 v1 n) (fun s => NL_Acts_settle_2 s.1 s.2) := it_eq2 (fun s : Int × NS => nb_Acts_settle_2 s.1 s.2) (v1, n)
noncomputable def N_Acts_settle (n : NS) : Option (NS) :=
  (NL_Acts_settle_2 0 n).bind <|
    us (fun n1 =>
    some n1)
    (us (fun n5 =>
    some n5)
    (fun n9 =>
    some n9))
theorem f_Acts_settle {w y : Prop} {g : g_S} {n : NS} {m : YS} (hw : w) (hR : RC w y g n m) : Rf (fun a b => RC w y a b m) (M_Acts_settle 1789 g) (N_Acts_settle n) := by
  unfold M_Acts_settle N_Acts_settle
  refine rf_bind (fL_Acts_settle_2 hw (e_n 0) (show inR 0 by decide) hR) (fun a b h => rf_us h (fun a2 n1 h => ?_) (fun a b h => rf_us h (fun a6 n5 h => ?_) (fun a10 n9 h => ?_)))
  · have hR3 : RC w y a2 n1 m := h
    exact rf_ok (by exact hR3)
  · have hR7 : RC w y a6 n5 m := h
    exact rf_ok (by exact hR7)
  · have hR11 : RC w y a10 n9 m := h
    exact rf_ok (by exact hR11)
noncomputable def nk_H_visit_54 (v1 : Int) (n : NS) : Option (Int × NS) :=
  (N_Bytes_clear 605 n).bind fun n3 =>
  some (v1, n3)
theorem fk_H_visit_54 {w y : Prop} {g : g_S} {n : NS} {m : YS} (hw : w) {xv1 : Int32} {v1 : Int} (ev1 : xv1 = Int32.ofInt v1) (rv1 : inR v1) (hR : RC w y g n m) : Rf (fun a b => RI a.1 b.1 ∧ RC w y a.2 b.2 m) (k_H_visit_54 0 xv1 g) (nk_H_visit_54 v1 n) := by
  subst ev1
  unfold k_H_visit_54 nk_H_visit_54
  refine c_S hR hw (sK11 hR hw) (by decide) (show srf 11 0 0 = some 1 from rfl) ?_
  refine v_c (bS605 ▸ (ce_by hR hw (by decide))).1 ?_
  refine rf_bind (f_Bytes_clear hw bS605.symm (by decide) hR) (fun g5 n3 hR4 => ?_)
  exact rf_ok (by exact ⟨⟨rfl, rv1⟩, hR4⟩)
noncomputable def nk_H_visit_46 (w0 : Int) (n : NS) : Option (Int × NS) :=
  (N_Acts_settle n).bind fun n3 =>
  nk_H_visit_54 w0 n3
theorem fk_H_visit_46 {w y : Prop} {g : g_S} {n : NS} {m : YS} (hw : w) {xw0 : Int32} {w0 : Int} (ew0 : xw0 = Int32.ofInt w0) (rw0 : inR w0) (hR : RC w y g n m) : Rf (fun a b => RI a.1 b.1 ∧ RC w y a.2 b.2 m) (k_H_visit_46 0 xw0 g) (nk_H_visit_46 w0 n) := by
  subst ew0
  unfold k_H_visit_46 nk_H_visit_46
  refine c_S hR hw (sK11 hR hw) (by decide) (show srf 11 0 7 = some 1789 from rfl) ?_
  refine v_c (sK0 hR hw).1 ?_
  refine rf_bind (f_Acts_settle hw hR) (fun g5 n3 hR4 => ?_)
  exact fk_H_visit_54 hw rfl rw0 hR4
noncomputable def N_H_visit (n : NS) : Option (Int × NS) :=
  (N_H_wrongByte n).bind fun z2 =>
  if z2 = 0 then
    (N_Acts_begin n).bind fun n8 =>
    nn (n8 4 605 1) <|
    (N_Net_aim (n8 4 605 1) 0 (n8 4 605 2) n8).bind <| u2 fun z17 n20 =>
    if z17 = 0 then
      nk_H_visit_46 (-1) n20
    else
      nk_H_visit_46 1 n20
  else
    nk_H_visit_54 z2 n
theorem f_H_visit {w y : Prop} {g : g_S} {n : NS} {m : YS} (hw : w) (hR : RC w y g n m) : Rf (fun a b => RI a.1 b.1 ∧ RC w y a.2 b.2 m) (M_H_visit 0 g) (N_H_visit n) := by
  unfold M_H_visit N_H_visit
  refine v_c (sK11 hR hw).1 ?_
  refine rf_bind (f_H_wrongByte hw hR) (fun a4 z2 h => ?_)
  obtain ⟨rfl, r3⟩ := h
  refine rf_eq rfl (e_n 0) r3 (show inR 0 by decide) ?_ ?_
  · refine c_S hR hw (sK11 hR hw) (by decide) (show srf 11 0 7 = some 1789 from rfl) ?_
    refine v_c (sK0 hR hw).1 ?_
    refine rf_bind (f_Acts_begin hw hR) (fun g10 n8 hR9 => ?_)
    refine c_S hR9 hw (sK11 hR9 hw) (by decide) (show srf 11 0 3 = some 1569 from rfl) ?_
    refine c_S hR9 hw (sK11 hR9 hw) (by decide) (show srf 11 0 0 = some 1 from rfl) ?_
    refine c_D (s := 1) hR9 (bS605 ▸ (ce_by hR9 hw (by decide))) rfl rfl rfl (fun h13 => ?_)
    refine c_S hR9 hw (sK11 hR9 hw) (by decide) (show srf 11 0 0 = some 1 from rfl) ?_
    refine c_I (s := 2) hR9 (bS605 ▸ (ce_by hR9 hw (by decide))) rfl rfl (fun h15 => ?_)
    refine v_c2 (sK6 hR9 hw).1 ?_
    refine rf_c2 (f_Net_aim hw rfl h13 (e_n 0) (show inR 0 by decide) rfl h15 hR9) (fun a19 g22 b h => ?_)
    obtain ⟨z17, n20⟩ := b
    refine rf_v2 ?_
    obtain ⟨rfl, r18⟩ := (show RZ a19 z17 from h.1)
    have hR21 : RC w y g22 n20 m := h.2
    refine rf_eq rfl (e_n 0) (inZ.r r18) (show inR 0 by decide) ?_ ?_
    · exact fk_H_visit_46 hw (e_m 1) (show inR (-1) by decide) hR21
    · exact fk_H_visit_46 hw (e_n 1) (show inR 1 by decide) hR21
  · exact fk_H_visit_54 hw rfl r3 hR
noncomputable def nk_H_page_59 (v1 : Int) (n : NS) : Option (Int × NS) :=
  (N_Bytes_clear 605 n).bind fun n3 =>
  some (v1, n3)
theorem fk_H_page_59 {w y : Prop} {g : g_S} {n : NS} {m : YS} (hw : w) {xv1 : Int32} {v1 : Int} (ev1 : xv1 = Int32.ofInt v1) (rv1 : inR v1) (hR : RC w y g n m) : Rf (fun a b => RI a.1 b.1 ∧ RC w y a.2 b.2 m) (k_H_page_59 0 xv1 g) (nk_H_page_59 v1 n) := by
  subst ev1
  unfold k_H_page_59 nk_H_page_59
  refine c_S hR hw (sK11 hR hw) (by decide) (show srf 11 0 0 = some 1 from rfl) ?_
  refine v_c (bS605 ▸ (ce_by hR hw (by decide))).1 ?_
  refine rf_bind (f_Bytes_clear hw bS605.symm (by decide) hR) (fun g5 n3 hR4 => ?_)
  exact rf_ok (by exact ⟨⟨rfl, rv1⟩, hR4⟩)
noncomputable def N_H_page (n : NS) : Option (Int × NS) :=
  (N_H_wrongByte n).bind fun z2 =>
  if z2 = 0 then
    (N_Acts_begin n).bind fun n8 =>
    nn (n8 4 605 1) <|
    (N_Reader_read (n8 4 605 1) (n8 4 605 2) n8).bind fun n17 =>
    (N_Acts_startPage n17).bind fun n22 =>
    (N_Acts_settle n22).bind fun n27 =>
    nk_H_page_59 (n27 10 0 5) n27
  else
    nk_H_page_59 z2 n
theorem f_H_page {w y : Prop} {g : g_S} {n : NS} {m : YS} (hw : w) (hR : RC w y g n m) : Rf (fun a b => RI a.1 b.1 ∧ RC w y a.2 b.2 m) (M_H_page 0 g) (N_H_page n) := by
  unfold M_H_page N_H_page
  refine v_c (sK11 hR hw).1 ?_
  refine rf_bind (f_H_wrongByte hw hR) (fun a4 z2 h => ?_)
  obtain ⟨rfl, r3⟩ := h
  refine rf_eq rfl (e_n 0) r3 (show inR 0 by decide) ?_ ?_
  · refine c_S hR hw (sK11 hR hw) (by decide) (show srf 11 0 7 = some 1789 from rfl) ?_
    refine v_c (sK0 hR hw).1 ?_
    refine rf_bind (f_Acts_begin hw hR) (fun g10 n8 hR9 => ?_)
    refine c_S hR9 hw (sK11 hR9 hw) (by decide) (show srf 11 0 4 = some 1631 from rfl) ?_
    refine c_S hR9 hw (sK11 hR9 hw) (by decide) (show srf 11 0 0 = some 1 from rfl) ?_
    refine c_D (s := 1) hR9 (bS605 ▸ (ce_by hR9 hw (by decide))) rfl rfl rfl (fun h13 => ?_)
    refine c_S hR9 hw (sK11 hR9 hw) (by decide) (show srf 11 0 0 = some 1 from rfl) ?_
    refine c_I (s := 2) hR9 (bS605 ▸ (ce_by hR9 hw (by decide))) rfl rfl (fun h15 => ?_)
    refine v_c (sK8 hR9 hw).1 ?_
    refine rf_bind (f_Reader_read hw rfl h13 rfl h15 hR9) (fun g19 n17 hR18 => ?_)
    refine c_S hR18 hw (sK11 hR18 hw) (by decide) (show srf 11 0 7 = some 1789 from rfl) ?_
    refine v_c (sK0 hR18 hw).1 ?_
    refine rf_bind (f_Acts_startPage hw hR18) (fun g24 n22 hR23 => ?_)
    refine c_S hR23 hw (sK11 hR23 hw) (by decide) (show srf 11 0 7 = some 1789 from rfl) ?_
    refine v_c (sK0 hR23 hw).1 ?_
    refine rf_bind (f_Acts_settle hw hR23) (fun g29 n27 hR28 => ?_)
    refine c_S hR28 hw (sK11 hR28 hw) (by decide) (show srf 11 0 2 = some 5 from rfl) ?_
    refine c_I (s := 5) hR28 (sK10 hR28 hw) rfl rfl (fun h31 => ?_)
    exact fk_H_page_59 hw rfl h31 hR28
  · exact fk_H_page_59 hw rfl r3 hR
noncomputable def N_Net_move (v1 : Int) (n : NS) : Option (Int × NS) :=
  ckL ((n 6 0 19) + v1) <|
  if ((n 6 0 19) + v1) < 0 then
    some (0, n)
  else
    if ((n 6 0 19) + v1) < (n 6 0 18) then
      ck ((n 6 0 19) + v1) <|
      st (nw n 6 0 19 ((n 6 0 19) + v1)) fun n9 =>
      ix (n9 6 0 19) 20 <|
      nn (n9 27 0 (n9 6 0 19)) <|
      ty n9 1584 101 <|
      (N_Address_copy 1584 (n9 27 0 (n9 6 0 19)) n9).bind fun n20 =>
      st (nw n20 6 0 16 2) fun n24 =>
      some (1, n24)
    else
      some (0, n)
theorem f_Net_move {w y : Prop} {g : g_S} {n : NS} {m : YS} (hw : w) {xv1 : Int32} {v1 : Int} (ev1 : xv1 = Int32.ofInt v1) (rv1 : inR v1) (hR : RC w y g n m) : Rf (fun a b => RZ a.1 b.1 ∧ RC w y a.2 b.2 m) (M_Net_move 1569 xv1 g) (N_Net_move v1 n) := by
  subst ev1
  unfold M_Net_move N_Net_move
  refine c_I (s := 19) hR (sK6 hR hw) rfl rfl (fun h1 => ?_)
  refine rf_ckL (fun h2 => ?_)
  refine rf_llt (f_add (f_i2l rfl h1) (f_i2l rfl rv1)) (f_n 0) h2 (show inL 0 by decide) ?_ ?_
  · exact rf_ok (by exact ⟨⟨(e_n 0), (.inl rfl)⟩, hR⟩)
  · refine c_I (s := 18) hR (sK6 hR hw) rfl rfl (fun h5 => ?_)
    refine rf_llt (f_add (f_i2l rfl h1) (f_i2l rfl rv1)) (f_i2l rfl h5) h2 (inR.l h5) ?_ ?_
    · refine rf_ck (fun h7 => ?_)
      refine p_I (s := 19) hR (sK6 hR hw) rfl ⟨rfl, rfl, by decide⟩ (e_l2i (f_add (f_i2l rfl h1) (f_i2l rfl rv1))) h7 (fun g11 n9 hR10 => ?_)
      refine c_S hR10 hw (sK6 hR10 hw) (by decide) (show srf 6 0 14 = some 1584 from rfl) ?_
      refine c_S hR10 hw (sK6 hR10 hw) (by decide) (show srf 6 0 17 = some 1588 from rfl) ?_
      refine c_I (s := 19) hR10 (sK6 hR10 hw) rfl rfl (fun h14 => ?_)
      refine s_D (L := 20) hR10 (sA27 hR10 hw) (by decide) (lA27 hR10 hw) rfl rfl h14 (fun h15 h16 => ?_)
      refine rf_ty (t := 101) dS1584.1 hR10 (by decide) (fun h18 h19 => ?_)
      refine v_c h18 ?_
      refine rf_bind (f_Address_copy rfl dS1584 rfl h16 hR10) (fun g22 n20 hR21 => ?_)
      refine p_I (s := 16) hR21 (sK6 hR21 hw) rfl ⟨rfl, rfl, by decide⟩ (e_n 2) (show inR 2 by decide) (fun g26 n24 hR25 => ?_)
      exact rf_ok (by exact ⟨⟨(e_n 1), (.inr rfl)⟩, hR25⟩)
    · exact rf_ok (by exact ⟨⟨(e_n 0), (.inl rfl)⟩, hR⟩)
noncomputable def N_H_history (v1 : Int) (n : NS) : Option (Int × NS) :=
  (N_Acts_begin n).bind fun n3 =>
  (N_Net_move v1 n3).bind <| u2 fun z8 n11 =>
  if z8 = 0 then
    some ((-1), n11)
  else
    (N_Acts_settle n11).bind fun n18 =>
    some ((n18 6 0 19), n18)
theorem f_H_history {w y : Prop} {g : g_S} {n : NS} {m : YS} (hw : w) {xv1 : Int32} {v1 : Int} (ev1 : xv1 = Int32.ofInt v1) (rv1 : inR v1) (hR : RC w y g n m) : Rf (fun a b => RI a.1 b.1 ∧ RC w y a.2 b.2 m) (M_H_history 0 xv1 g) (N_H_history v1 n) := by
  subst ev1
  unfold M_H_history N_H_history
  refine c_S hR hw (sK11 hR hw) (by decide) (show srf 11 0 7 = some 1789 from rfl) ?_
  refine v_c (sK0 hR hw).1 ?_
  refine rf_bind (f_Acts_begin hw hR) (fun g5 n3 hR4 => ?_)
  refine c_S hR4 hw (sK11 hR4 hw) (by decide) (show srf 11 0 3 = some 1569 from rfl) ?_
  refine v_c2 (sK6 hR4 hw).1 ?_
  refine rf_c2 (f_Net_move hw rfl rv1 hR4) (fun a10 g13 b h => ?_)
  obtain ⟨z8, n11⟩ := b
  refine rf_v2 ?_
  obtain ⟨rfl, r9⟩ := (show RZ a10 z8 from h.1)
  have hR12 : RC w y g13 n11 m := h.2
  refine rf_eq rfl (e_n 0) (inZ.r r9) (show inR 0 by decide) ?_ ?_
  · exact rf_ok (by exact ⟨⟨(e_m 1), (show inR (-1) by decide)⟩, hR12⟩)
  · refine c_S hR12 hw (sK11 hR12 hw) (by decide) (show srf 11 0 7 = some 1789 from rfl) ?_
    refine v_c (sK0 hR12 hw).1 ?_
    refine rf_bind (f_Acts_settle hw hR12) (fun g20 n18 hR19 => ?_)
    refine c_S hR19 hw (sK11 hR19 hw) (by decide) (show srf 11 0 3 = some 1569 from rfl) ?_
    refine c_I (s := 19) hR19 (sK6 hR19 hw) rfl rfl (fun h22 => ?_)
    exact rf_ok (by exact ⟨⟨rfl, h22⟩, hR19⟩)
noncomputable def N_H_showBytes (v1 : Int) (n : NS) : Option (Int × NS) :=
  (N_Bytes_clear 606 n).bind fun n3 =>
  nn (n3 4 v1 1) <|
  (N_Bytes_addAll 606 (n3 4 v1 1) 0 (n3 4 v1 2) n3).bind fun n10 =>
  some ((n10 4 606 2), n10)
theorem f_H_showBytes {w y : Prop} {g : g_S} {n : NS} {m : YS} (hw : w) {xv1 : Nat} {v1 : Int} (ev1 : xv1 = aBy v1) (rv1 : 0 ≤ v1 ∧ v1 ≤ 631) (hR : RC w y g n m) : Rf (fun a b => RI a.1 b.1 ∧ RC w y a.2 b.2 m) (M_H_showBytes 0 xv1 g) (N_H_showBytes v1 n) := by
  subst ev1
  unfold M_H_showBytes N_H_showBytes
  refine c_S hR hw (sK11 hR hw) (by decide) (show srf 11 0 1 = some 3 from rfl) ?_
  refine v_c (bS606 ▸ (ce_by hR hw (by decide))).1 ?_
  refine rf_bind (f_Bytes_clear hw bS606.symm (by decide) hR) (fun g5 n3 hR4 => ?_)
  refine c_S hR4 hw (sK11 hR4 hw) (by decide) (show srf 11 0 1 = some 3 from rfl) ?_
  refine c_D (s := 1) hR4 (ce_by hR4 hw rv1) rfl rfl rfl (fun h7 => ?_)
  refine c_I (s := 2) hR4 (ce_by hR4 hw rv1) rfl rfl (fun h8 => ?_)
  refine v_c (bS606 ▸ (ce_by hR4 hw (by decide))).1 ?_
  refine rf_bind (f_Bytes_addAll hw bS606.symm (by decide) rfl h7 (e_n 0) (show inR 0 by decide) rfl h8 hR4) (fun g12 n10 hR11 => ?_)
  refine c_S hR11 hw (sK11 hR11 hw) (by decide) (show srf 11 0 1 = some 3 from rfl) ?_
  refine c_I (s := 2) hR11 (bS606 ▸ (ce_by hR11 hw (by decide))) rfl rfl (fun h14 => ?_)
  exact rf_ok (by exact ⟨⟨rfl, h14⟩, hR11⟩)
noncomputable def N_H_write (v1 : Int) (n : NS) : Option (Int × NS) :=
  if v1 = 0 then
    (N_H_showAddress 1582 n).bind <| u2 fun z5 n8 =>
    some (z5, n8)
  else if v1 = 1 then
    (N_H_showAddress 1578 n).bind <| u2 fun z15 n18 =>
    some (z15, n18)
  else if v1 = 2 then
    (N_H_showBytes 607 n).bind <| u2 fun z25 n28 =>
    some (z25, n28)
  else
    some ((-1), n)
theorem f_H_write {w y : Prop} {g : g_S} {n : NS} {m : YS} (hw : w) {xv1 : Int32} {v1 : Int} (ev1 : xv1 = Int32.ofInt v1) (rv1 : inR v1) (hR : RC w y g n m) : Rf (fun a b => RI a.1 b.1 ∧ RC w y a.2 b.2 m) (M_H_write 0 xv1 g) (N_H_write v1 n) := by
  subst ev1
  unfold M_H_write N_H_write
  refine rf_eq rfl (e_n 0) rv1 (show inR 0 by decide) ?_ ?_
  · refine c_S hR hw (sK11 hR hw) (by decide) (show srf 11 0 3 = some 1569 from rfl) ?_
    refine c_S hR hw (sK6 hR hw) (by decide) (show srf 6 0 13 = some 1582 from rfl) ?_
    refine v_c2 (sK11 hR hw).1 ?_
    refine rf_c2 (f_H_showAddress hw rfl dS1582 hR) (fun a7 g10 b h => ?_)
    obtain ⟨z5, n8⟩ := b
    refine rf_v2 ?_
    obtain ⟨rfl, r6⟩ := (show RI a7 z5 from h.1)
    have hR9 : RC w y g10 n8 m := h.2
    exact rf_ok (by exact ⟨⟨rfl, r6⟩, hR9⟩)
  refine rf_eq rfl (e_n 1) rv1 (show inR 1 by decide) ?_ ?_
  · refine c_S hR hw (sK11 hR hw) (by decide) (show srf 11 0 3 = some 1569 from rfl) ?_
    refine c_S hR hw (sK6 hR hw) (by decide) (show srf 6 0 10 = some 1578 from rfl) ?_
    refine v_c2 (sK11 hR hw).1 ?_
    refine rf_c2 (f_H_showAddress hw rfl dS1578 hR) (fun a17 g20 b h => ?_)
    obtain ⟨z15, n18⟩ := b
    refine rf_v2 ?_
    obtain ⟨rfl, r16⟩ := (show RI a17 z15 from h.1)
    have hR19 : RC w y g20 n18 m := h.2
    exact rf_ok (by exact ⟨⟨rfl, r16⟩, hR19⟩)
  refine rf_eq rfl (e_n 2) rv1 (show inR 2 by decide) ?_ ?_
  · refine c_S hR hw (sK11 hR hw) (by decide) (show srf 11 0 3 = some 1569 from rfl) ?_
    refine c_S hR hw (sK6 hR hw) (by decide) (show srf 6 0 11 = some 1580 from rfl) ?_
    refine v_c2 (sK11 hR hw).1 ?_
    refine rf_c2 (f_H_showBytes hw bS607.symm (by decide) hR) (fun a27 g30 b h => ?_)
    obtain ⟨z25, n28⟩ := b
    refine rf_v2 ?_
    obtain ⟨rfl, r26⟩ := (show RI a27 z25 from h.1)
    have hR29 : RC w y g30 n28 m := h.2
    exact rf_ok (by exact ⟨⟨rfl, r26⟩, hR29⟩)
  exact rf_ok (by exact ⟨⟨(e_m 1), (show inR (-1) by decide)⟩, hR⟩)
