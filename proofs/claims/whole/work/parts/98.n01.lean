/-! methods on numbers, group 1 -/
noncomputable def N_Acts_begin (n : NS) : Option (NS) :=
  st (nw n 0 0 9 200) fun n2 =>
  st (nw n2 0 0 18 0) fun n6 =>
  (N_Bytes_clear 609 n6).bind fun n11 =>
  st (nw n11 0 0 12 0) fun n15 =>
  st (nw n15 0 0 15 0) fun n19 =>
  st (nw n19 0 0 16 0) fun n23 =>
  some n23
theorem f_Acts_begin {w y : Prop} {g : g_S} {n : NS} {m : YS} (hw : w) (hR : RC w y g n m) : Rf (fun a b => RC w y a b m) (M_Acts_begin 1789 g) (N_Acts_begin n) := by
  unfold M_Acts_begin N_Acts_begin
  refine p_I (s := 9) hR (sK0 hR hw) rfl ⟨rfl, rfl, by decide⟩ (e_n 200) (show inR 200 by decide) (fun g4 n2 hR3 => ?_)
  refine p_I (s := 18) hR3 (sK0 hR3 hw) rfl ⟨rfl, rfl, by decide⟩ (e_n 0) (show inR 0 by decide) (fun g8 n6 hR7 => ?_)
  refine c_S hR7 hw (sK0 hR7 hw) (by decide) (show srf 0 0 11 = some 1792 from rfl) ?_
  refine v_c (bS609 ▸ (ce_by hR7 hw (by decide))).1 ?_
  refine rf_bind (f_Bytes_clear hw bS609.symm (by decide) hR7) (fun g13 n11 hR12 => ?_)
  refine p_I (s := 12) hR12 (sK0 hR12 hw) rfl ⟨rfl, rfl, by decide⟩ (e_n 0) (show inR 0 by decide) (fun g17 n15 hR16 => ?_)
  refine p_I (s := 15) hR16 (sK0 hR16 hw) rfl ⟨rfl, rfl, by decide⟩ (e_n 0) (show inR 0 by decide) (fun g21 n19 hR20 => ?_)
  refine p_I (s := 16) hR20 (sK0 hR20 hw) rfl ⟨rfl, rfl, by decide⟩ (e_n 0) (show inR 0 by decide) (fun g25 n23 hR24 => ?_)
  exact rf_ok (by exact hR24)
noncomputable def nb_Net_pushHistory_20 (v1 : Int) (v2 : Int) (n : NS) : Option ((Int × NS) ⊕ (NS)) :=
  ck (v2 + 1) <|
  if (v2 + 1) < 20 then
    ck (v2 + 1) <|
    ix (v2 + 1) 20 <|
    nn (n 27 0 (v2 + 1)) <|
    ty n (n 27 0 (v2 + 1)) 101 <|
    ix v2 20 <|
    st (nw n 27 0 v2 (n 27 0 (v2 + 1))) fun n11 =>
    ck (v2 + 1) <|
    some (.inl (v2 + 1, n11))
  else
    some (.inr n)
theorem fb_Net_pushHistory_20 {w y : Prop} {g : g_S} {n : NS} {m : YS} (hw : w) {xv1 : Nat} {v1 : Int} (ev1 : xv1 = Int.toNat v1) (rv1 : 0 ≤ v1 ∧ lc (Int.toNat v1) = (99, v1)) {xv2 : Int32} {v2 : Int} (ev2 : xv2 = Int32.ofInt v2) (rv2 : inR v2) (hR : RC w y g n m) : Rf (RS (fun a b => RI a.1 b.1 ∧ RC w y a.2 b.2 m) (fun a b => RC w y a b m)) (b_Net_pushHistory_20 1569 xv1 xv2 g) (nb_Net_pushHistory_20 v1 v2 n) := by
  subst ev1
  subst ev2
  unfold b_Net_pushHistory_20 nb_Net_pushHistory_20
  refine rf_ck (fun h1 => ?_)
  refine rf_lt (e_add rfl (e_n 1)) (e_n 20) h1 (show inR 20 by decide) ?_ ?_
  · refine c_S hR hw (sK6 hR hw) (by decide) (show srf 6 0 17 = some 1588 from rfl) ?_
    refine c_S hR hw (sK6 hR hw) (by decide) (show srf 6 0 17 = some 1588 from rfl) ?_
    refine rf_ck (fun h5 => ?_)
    refine s_D (L := 20) hR (sA27 hR hw) (by decide) (lA27 hR hw) rfl (e_add rfl (e_n 1)) h5 (fun h6 h7 => ?_)
    refine rf_ty (t := 101) h7.1 hR (by decide) (fun h9 h10 => ?_)
    refine t_Q (L := 20) hR (sA27 hR hw) (by decide) (lA27 hR hw) rfl rfl rv2 (fun _ => rfl) h9 (rc_d h7) (fun g13 n11 hR12 => ?_)
    refine rf_ck (fun h14 => ?_)
    exact rf_ok (by exact ⟨⟨(e_add rfl (e_n 1)), h14⟩, hR12⟩)
  · exact rf_ok (by exact hR)
noncomputable def NL_Net_pushHistory_20 (v1 : Int) (v2 : Int) (n : NS) : Option (NS) :=
  it (fun s : Int × NS => nb_Net_pushHistory_20 v1 s.1 s.2) (v2, n)
theorem fL_Net_pushHistory_20 {w y : Prop} {g : g_S} {n : NS} {m : YS} (hw : w) {xv1 : Nat} {v1 : Int} (ev1 : xv1 = Int.toNat v1) (rv1 : 0 ≤ v1 ∧ lc (Int.toNat v1) = (99, v1)) {xv2 : Int32} {v2 : Int} (ev2 : xv2 = Int32.ofInt v2) (rv2 : inR v2) (hR : RC w y g n m) : Rf (fun a b => RC w y a b m) (L_Net_pushHistory_20 1569 xv1 xv2 g) (NL_Net_pushHistory_20 v1 v2 n) := by
  subst ev1
  subst ev2
  unfold L_Net_pushHistory_20 NL_Net_pushHistory_20
  refine rf_it (I := (fun a b => RI a.1 b.1 ∧ RC w y a.2 b.2 m)) (fun s t h => ?_) ⟨⟨rfl, rv2⟩, hR⟩
  exact fb_Net_pushHistory_20 hw rfl rv1 h.1.1 h.1.2 h.2
theorem NL_Net_pushHistory_20_eq (v1 : Int) (v2 : Int) (n : NS) : NL_Net_pushHistory_20 v1 v2 n = itc (nb_Net_pushHistory_20 v1 v2 n) (fun s => NL_Net_pushHistory_20 v1 s.1 s.2) := it_eq2 (fun s : Int × NS => nb_Net_pushHistory_20 v1 s.1 s.2) (v2, n)
noncomputable def nk_Net_pushHistory_69 (n : NS) : Option (NS) :=
  ix (n 6 0 19) 20 <|
  nn (n 27 0 (n 6 0 19)) <|
  ty n (n 27 0 (n 6 0 19)) 101 <|
  (N_Address_copy (n 27 0 (n 6 0 19)) 1582 n).bind fun n9 =>
  ck ((n9 6 0 19) + 1) <|
  st (nw n9 6 0 18 ((n9 6 0 19) + 1)) fun n15 =>
  some n15
theorem fk_Net_pushHistory_69 {w y : Prop} {g : g_S} {n : NS} {m : YS} (hw : w) (hR : RC w y g n m) : Rf (fun a b => RC w y a b m) (k_Net_pushHistory_69 1569 g) (nk_Net_pushHistory_69 n) := by
  unfold k_Net_pushHistory_69 nk_Net_pushHistory_69
  refine c_S hR hw (sK6 hR hw) (by decide) (show srf 6 0 17 = some 1588 from rfl) ?_
  refine c_I (s := 19) hR (sK6 hR hw) rfl rfl (fun h2 => ?_)
  refine s_D (L := 20) hR (sA27 hR hw) (by decide) (lA27 hR hw) rfl rfl h2 (fun h3 h4 => ?_)
  refine c_S hR hw (sK6 hR hw) (by decide) (show srf 6 0 13 = some 1582 from rfl) ?_
  refine rf_ty (t := 101) h4.1 hR (by decide) (fun h7 h8 => ?_)
  refine v_c h7 ?_
  refine rf_bind (f_Address_copy rfl h4 rfl dS1582 hR) (fun g11 n9 hR10 => ?_)
  refine c_I (s := 19) hR10 (sK6 hR10 hw) rfl rfl (fun h12 => ?_)
  refine rf_ck (fun h13 => ?_)
  refine p_I (s := 18) hR10 (sK6 hR10 hw) rfl ⟨rfl, rfl, by decide⟩ (e_add rfl (e_n 1)) h13 (fun g17 n15 hR16 => ?_)
  exact rf_ok (by exact hR16)
noncomputable def N_Net_pushHistory (n : NS) : Option (NS) :=
  ck ((n 6 0 19) + 1) <|
  if ((n 6 0 19) + 1) = 20 then
    ix 0 20 <|
    nn (n 27 0 0) <|
    (NL_Net_pushHistory_20 (n 27 0 0) 0 n).bind <| fun n7 =>
    ty n7 (n 27 0 0) 101 <|
    ix 19 20 <|
    st (nw n7 27 0 19 (n 27 0 0)) fun n14 =>
    nk_Net_pushHistory_69 n14
  else
    ck ((n 6 0 19) + 1) <|
    st (nw n 6 0 19 ((n 6 0 19) + 1)) fun n20 =>
    nk_Net_pushHistory_69 n20
theorem f_Net_pushHistory {w y : Prop} {g : g_S} {n : NS} {m : YS} (hw : w) (hR : RC w y g n m) : Rf (fun a b => RC w y a b m) (M_Net_pushHistory 1569 g) (N_Net_pushHistory n) := by
  unfold M_Net_pushHistory N_Net_pushHistory
  refine c_I (s := 19) hR (sK6 hR hw) rfl rfl (fun h1 => ?_)
  refine rf_ck (fun h2 => ?_)
  refine rf_eq (e_add rfl (e_n 1)) (e_n 20) h2 (show inR 20 by decide) ?_ ?_
  · refine c_S hR hw (sK6 hR hw) (by decide) (show srf 6 0 17 = some 1588 from rfl) ?_
    refine s_D (L := 20) hR (sA27 hR hw) (by decide) (lA27 hR hw) rfl (e_n 0) (show inR 0 by decide) (fun h5 h6 => ?_)
    refine rf_bind (fL_Net_pushHistory_20 hw rfl h6 (e_n 0) (show inR 0 by decide) hR) (fun a8 n7 h => ?_)
    have hR9 : RC w y a8 n7 m := h
    refine c_S hR9 hw (sK6 hR9 hw) (by decide) (show srf 6 0 17 = some 1588 from rfl) ?_
    refine rf_ty (t := 101) h6.1 hR9 (by decide) (fun h12 h13 => ?_)
    refine t_Q (L := 20) hR9 (sA27 hR9 hw) (by decide) (lA27 hR9 hw) rfl (e_n 19) (show inR 19 by decide) (fun _ => rfl) h12 (rc_d h6) (fun g16 n14 hR15 => ?_)
    exact fk_Net_pushHistory_69 hw hR15
  · refine c_I (s := 19) hR (sK6 hR hw) rfl rfl (fun h17 => ?_)
    refine rf_ck (fun h18 => ?_)
    refine p_I (s := 19) hR (sK6 hR hw) rfl ⟨rfl, rfl, by decide⟩ (e_add rfl (e_n 1)) h18 (fun g22 n20 hR21 => ?_)
    exact fk_Net_pushHistory_69 hw hR21
noncomputable def nk_Net_setOff_42 (n : NS) : Option (NS) :=
  st (nw n 6 0 16 1) fun n2 =>
  some n2
theorem fk_Net_setOff_42 {w y : Prop} {g : g_S} {n : NS} {m : YS} (hw : w) (hR : RC w y g n m) : Rf (fun a b => RC w y a b m) (k_Net_setOff_42 1569 g) (nk_Net_setOff_42 n) := by
  unfold k_Net_setOff_42 nk_Net_setOff_42
  refine p_I (s := 16) hR (sK6 hR hw) rfl ⟨rfl, rfl, by decide⟩ (e_n 1) (show inR 1 by decide) (fun g4 n2 hR3 => ?_)
  exact rf_ok (by exact hR3)
noncomputable def N_Net_setOff (n : NS) : Option (NS) :=
  ty n 1584 101 <|
  (N_Address_hasMark 1584 n).bind fun z5 =>
  if z5 = 0 then
    nk_Net_setOff_42 n
  else
    ty n 1584 101 <|
    (N_Address_isAt 1584 1582 n).bind fun z14 =>
    if z14 = 0 then
      nk_Net_setOff_42 n
    else
      ty n 1582 101 <|
      (N_Address_copy 1582 1584 n).bind fun n23 =>
      (N_Net_pushHistory n23).bind fun n27 =>
      some n27
theorem f_Net_setOff {w y : Prop} {g : g_S} {n : NS} {m : YS} (hw : w) (hR : RC w y g n m) : Rf (fun a b => RC w y a b m) (M_Net_setOff 1569 g) (N_Net_setOff n) := by
  unfold M_Net_setOff N_Net_setOff
  refine c_S hR hw (sK6 hR hw) (by decide) (show srf 6 0 14 = some 1584 from rfl) ?_
  refine rf_ty (t := 101) dS1584.1 hR (by decide) (fun h3 h4 => ?_)
  refine v_c h3 ?_
  refine rf_bind (f_Address_hasMark rfl dS1584 hR) (fun a7 z5 h => ?_)
  obtain ⟨rfl, r6⟩ := h
  refine rf_eq rfl (e_n 0) (inZ.r r6) (show inR 0 by decide) ?_ ?_
  · exact fk_Net_setOff_42 hw hR
  · refine c_S hR hw (sK6 hR hw) (by decide) (show srf 6 0 14 = some 1584 from rfl) ?_
    refine c_S hR hw (sK6 hR hw) (by decide) (show srf 6 0 13 = some 1582 from rfl) ?_
    refine rf_ty (t := 101) dS1584.1 hR (by decide) (fun h12 h13 => ?_)
    refine v_c h12 ?_
    refine rf_bind (f_Address_isAt rfl dS1584 rfl dS1582 hR) (fun a16 z14 h => ?_)
    obtain ⟨rfl, r15⟩ := h
    refine rf_eq rfl (e_n 0) (inZ.r r15) (show inR 0 by decide) ?_ ?_
    · exact fk_Net_setOff_42 hw hR
    · refine c_S hR hw (sK6 hR hw) (by decide) (show srf 6 0 13 = some 1582 from rfl) ?_
      refine c_S hR hw (sK6 hR hw) (by decide) (show srf 6 0 14 = some 1584 from rfl) ?_
      refine rf_ty (t := 101) dS1582.1 hR (by decide) (fun h21 h22 => ?_)
      refine v_c h21 ?_
      refine rf_bind (f_Address_copy rfl dS1582 rfl dS1584 hR) (fun g25 n23 hR24 => ?_)
      refine v_c (sK6 hR24 hw).1 ?_
      refine rf_bind (f_Net_pushHistory hw hR24) (fun g29 n27 hR28 => ?_)
      exact rf_ok (by exact hR28)
noncomputable def N_Net_aim (v1 : Int) (v2 : Int) (v3 : Int) (n : NS) : Option (Int × NS) :=
  ty n 1584 101 <|
  (N_Address_read 1584 v1 v2 v3 1582 n).bind <| u2 fun z6 n9 =>
  if z6 = 0 then
    some (0, n9)
  else
    (N_Net_setOff n9).bind fun n15 =>
    some (1, n15)
theorem f_Net_aim {w y : Prop} {g : g_S} {n : NS} {m : YS} (hw : w) {xv1 : Nat} {v1 : Int} (ev1 : xv1 = Int.toNat v1) (rv1 : 0 ≤ v1 ∧ lc (Int.toNat v1) = (99, v1)) {xv2 : Int32} {v2 : Int} (ev2 : xv2 = Int32.ofInt v2) (rv2 : inR v2) {xv3 : Int32} {v3 : Int} (ev3 : xv3 = Int32.ofInt v3) (rv3 : inR v3) (hR : RC w y g n m) : Rf (fun a b => RZ a.1 b.1 ∧ RC w y a.2 b.2 m) (M_Net_aim 1569 xv1 xv2 xv3 g) (N_Net_aim v1 v2 v3 n) := by
  subst ev1
  subst ev2
  subst ev3
  unfold M_Net_aim N_Net_aim
  refine c_S hR hw (sK6 hR hw) (by decide) (show srf 6 0 14 = some 1584 from rfl) ?_
  refine c_S hR hw (sK6 hR hw) (by decide) (show srf 6 0 13 = some 1582 from rfl) ?_
  refine rf_ty (t := 101) dS1584.1 hR (by decide) (fun h4 h5 => ?_)
  refine v_c2 h4 ?_
  refine rf_c2 (f_Address_read rfl dS1584 rfl rv1 rfl rv2 rfl rv3 rfl dS1582 hR) (fun a8 g11 b h => ?_)
  obtain ⟨z6, n9⟩ := b
  refine rf_v2 ?_
  obtain ⟨rfl, r7⟩ := (show RZ a8 z6 from h.1)
  have hR10 : RC w y g11 n9 m := h.2
  refine rf_eq rfl (e_n 0) (inZ.r r7) (show inR 0 by decide) ?_ ?_
  · exact rf_ok (by exact ⟨⟨(e_n 0), (.inl rfl)⟩, hR10⟩)
  · refine v_c (sK6 hR10 hw).1 ?_
    refine rf_bind (f_Net_setOff hw hR10) (fun g17 n15 hR16 => ?_)
    exact rf_ok (by exact ⟨⟨(e_n 1), (.inr rfl)⟩, hR16⟩)
noncomputable def N_Address_dropMark (v0 : Int) (n : NS) : Option (NS) :=
  ty n v0 101 <|
  ty n v0 101 <|
  st (nw n 99 v0 5 (n 99 v0 4)) fun n7 =>
  some n7
theorem f_Address_dropMark {w y : Prop} {g : g_S} {n : NS} {m : YS} {xv0 : Nat} {v0 : Int} (ev0 : xv0 = Int.toNat v0) (rv0 : 0 ≤ v0 ∧ lc (Int.toNat v0) = (99, v0)) (hR : RC w y g n m) : Rf (fun a b => RC w y a b m) (M_Address_dropMark xv0 g) (N_Address_dropMark v0 n) := by
  subst ev0
  unfold M_Address_dropMark N_Address_dropMark
  refine rf_ty (t := 101) rv0.1 hR (by decide) (fun h2 h3 => ?_)
  refine c_I (s := 4) hR (ce_dy hR rv0 h3 (by decide)) rfl rfl (fun h1 => ?_)
  refine rf_ty (t := 101) rv0.1 hR (by decide) (fun h5 h6 => ?_)
  refine p_I (s := 5) hR (ce_dy hR rv0 h6 (by decide)) rfl ⟨rfl, rfl, by decide⟩ rfl h1 (fun g9 n7 hR8 => ?_)
  exact rf_ok (by exact hR8)
noncomputable def nb_Bytes_addPacked_3 (v0 : Int) (v1 : Int) (v3 : Int) (n : NS) : Option ((Int × NS) ⊕ (NS)) :=
  if v3 < 0 then
    some (.inr n)
  else
    sh6 v3 <|
    if ((v1 / 2 ^ Int.toNat v3) % 256) = 0 then
      ck (v3 + (-8)) <|
      some (.inl (v3 + (-8), n))
    else
      (N_Bytes_add v0 ((v1 / 2 ^ Int.toNat v3) % 256) n).bind fun n6 =>
      ck (v3 + (-8)) <|
      some (.inl (v3 + (-8), n6))
theorem fb_Bytes_addPacked_3 {w y : Prop} {g : g_S} {n : NS} {m : YS} (hw : w) {xv0 : Nat} {v0 : Int} (ev0 : xv0 = aBy v0) (rv0 : 0 ≤ v0 ∧ v0 ≤ 631) {xv1 : Int64} {v1 : Int} (ev1 : xv1 = Int64.ofInt v1) (rv1 : inL v1) {xv3 : Int32} {v3 : Int} (ev3 : xv3 = Int32.ofInt v3) (rv3 : inR v3) (hR : RC w y g n m) : Rf (RS (fun a b => RI a.1 b.1 ∧ RC w y a.2 b.2 m) (fun a b => RC w y a b m)) (b_Bytes_addPacked_3 xv0 xv1 xv3 g) (nb_Bytes_addPacked_3 v0 v1 v3 n) := by
  subst ev0
  subst ev1
  subst ev3
  unfold b_Bytes_addPacked_3 nb_Bytes_addPacked_3
  refine rf_lt rfl (e_n 0) rv3 (show inR 0 by decide) ?_ ?_
  · exact rf_ok (by exact hR)
  · refine rf_sh6 (fun h2 => ?_)
    refine rf_eq (e_and255 (e_l2i (f_shr rfl rv1 rfl h2))) (e_n 0) m255 (show inR 0 by decide) ?_ ?_
    · refine rf_ck (fun h4 => ?_)
      exact rf_ok (by exact ⟨⟨(e_add rfl (e_m 8)), h4⟩, hR⟩)
    · refine v_c (ce_by hR hw rv0).1 ?_
      refine rf_bind (f_Bytes_add hw rfl rv0 (e_and255 (e_l2i (f_shr rfl rv1 rfl h2))) m255 hR) (fun g8 n6 hR7 => ?_)
      refine rf_ck (fun h9 => ?_)
      exact rf_ok (by exact ⟨⟨(e_add rfl (e_m 8)), h9⟩, hR7⟩)
noncomputable def NL_Bytes_addPacked_3 (v0 : Int) (v1 : Int) (v3 : Int) (n : NS) : Option (NS) :=
  it (fun s : Int × NS => nb_Bytes_addPacked_3 v0 v1 s.1 s.2) (v3, n)
theorem fL_Bytes_addPacked_3 {w y : Prop} {g : g_S} {n : NS} {m : YS} (hw : w) {xv0 : Nat} {v0 : Int} (ev0 : xv0 = aBy v0) (rv0 : 0 ≤ v0 ∧ v0 ≤ 631) {xv1 : Int64} {v1 : Int} (ev1 : xv1 = Int64.ofInt v1) (rv1 : inL v1) {xv3 : Int32} {v3 : Int} (ev3 : xv3 = Int32.ofInt v3) (rv3 : inR v3) (hR : RC w y g n m) : Rf (fun a b => RC w y a b m) (L_Bytes_addPacked_3 xv0 xv1 xv3 g) (NL_Bytes_addPacked_3 v0 v1 v3 n) := by
  subst ev0
  subst ev1
  subst ev3
  unfold L_Bytes_addPacked_3 NL_Bytes_addPacked_3
  refine rf_it (I := (fun a b => RI a.1 b.1 ∧ RC w y a.2 b.2 m)) (fun s t h => ?_) ⟨⟨rfl, rv3⟩, hR⟩
  exact fb_Bytes_addPacked_3 hw rfl rv0 rfl rv1 h.1.1 h.1.2 h.2
theorem NL_Bytes_addPacked_3_eq (v0 : Int) (v1 : Int) (v3 : Int) (n : NS) : NL_Bytes_addPacked_3 v0 v1 v3 n = itc (nb_Bytes_addPacked_3 v0 v1 v3 n) (fun s => NL_Bytes_addPacked_3 v0 v1 s.1 s.2) := it_eq2 (fun s : Int × NS => nb_Bytes_addPacked_3 v0 v1 s.1 s.2) (v3, n)
noncomputable def N_Bytes_addPacked (v0 : Int) (v1 : Int) (n : NS) : Option (NS) :=
  (NL_Bytes_addPacked_3 v0 v1 56 n).bind <| fun n1 =>
  some n1
theorem f_Bytes_addPacked {w y : Prop} {g : g_S} {n : NS} {m : YS} (hw : w) {xv0 : Nat} {v0 : Int} (ev0 : xv0 = aBy v0) (rv0 : 0 ≤ v0 ∧ v0 ≤ 631) {xv1 : Int64} {v1 : Int} (ev1 : xv1 = Int64.ofInt v1) (rv1 : inL v1) (hR : RC w y g n m) : Rf (fun a b => RC w y a b m) (M_Bytes_addPacked xv0 xv1 g) (N_Bytes_addPacked v0 v1 n) := by
  subst ev0
  subst ev1
  unfold M_Bytes_addPacked N_Bytes_addPacked
  refine rf_bind (fL_Bytes_addPacked_3 hw rfl rv0 rfl rv1 (e_n 56) (show inR 56 by decide) hR) (fun a2 n1 h => ?_)
  have hR3 : RC w y a2 n1 m := h
  exact rf_ok (by exact hR3)
noncomputable def nk_Net_listCookies_55 (v1 : Int) (n : NS) : Option ((Int × NS) ⊕ (NS)) :=
  ck (3 * v1) <|
  ck ((3 * v1) + 1) <|
  ix ((3 * v1) + 1) 60 <|
  (N_Bytes_addPacked 607 (n 25 0 ((3 * v1) + 1)) n).bind fun n8 =>
  (N_Bytes_add 607 61 n8).bind fun n13 =>
  ck (3 * v1) <|
  ck ((3 * v1) + 2) <|
  ix ((3 * v1) + 2) 60 <|
  (N_Bytes_addPacked 607 (n13 25 0 ((3 * v1) + 2)) n13).bind fun n23 =>
  ck (v1 + 1) <|
  some (.inl (v1 + 1, n23))
theorem fk_Net_listCookies_55 {w y : Prop} {g : g_S} {n : NS} {m : YS} (hw : w) {xv1 : Int32} {v1 : Int} (ev1 : xv1 = Int32.ofInt v1) (rv1 : inR v1) (hR : RC w y g n m) : Rf (RS (fun a b => RI a.1 b.1 ∧ RC w y a.2 b.2 m) (fun a b => RC w y a b m)) (k_Net_listCookies_55 1569 xv1 g) (nk_Net_listCookies_55 v1 n) := by
  subst ev1
  unfold k_Net_listCookies_55 nk_Net_listCookies_55
  refine c_S hR hw (sK6 hR hw) (by decide) (show srf 6 0 11 = some 1580 from rfl) ?_
  refine c_S hR hw (sK6 hR hw) (by decide) (show srf 6 0 5 = some 1576 from rfl) ?_
  refine rf_ck (fun h3 => ?_)
  refine rf_ck (fun h4 => ?_)
  refine s_L (L := 60) hR (sA25 hR hw) (lA25 hR hw) rfl (e_add (e_mul (e_n 3) rfl) (e_n 1)) h4 (fun h5 h6 => ?_)
  refine v_c (bS607 ▸ (ce_by hR hw (by decide))).1 ?_
  refine rf_bind (f_Bytes_addPacked hw bS607.symm (by decide) rfl h6 hR) (fun g10 n8 hR9 => ?_)
  refine c_S hR9 hw (sK6 hR9 hw) (by decide) (show srf 6 0 11 = some 1580 from rfl) ?_
  refine v_c (bS607 ▸ (ce_by hR9 hw (by decide))).1 ?_
  refine rf_bind (f_Bytes_add hw bS607.symm (by decide) (e_n 61) (show inR 61 by decide) hR9) (fun g15 n13 hR14 => ?_)
  refine c_S hR14 hw (sK6 hR14 hw) (by decide) (show srf 6 0 11 = some 1580 from rfl) ?_
  refine c_S hR14 hw (sK6 hR14 hw) (by decide) (show srf 6 0 5 = some 1576 from rfl) ?_
  refine rf_ck (fun h18 => ?_)
  refine rf_ck (fun h19 => ?_)
  refine s_L (L := 60) hR14 (sA25 hR14 hw) (lA25 hR14 hw) rfl (e_add (e_mul (e_n 3) rfl) (e_n 2)) h19 (fun h20 h21 => ?_)
  refine v_c (bS607 ▸ (ce_by hR14 hw (by decide))).1 ?_
  refine rf_bind (f_Bytes_addPacked hw bS607.symm (by decide) rfl h21 hR14) (fun g25 n23 hR24 => ?_)
  refine rf_ck (fun h26 => ?_)
  exact rf_ok (by exact ⟨⟨(e_add rfl (e_n 1)), h26⟩, hR24⟩)
noncomputable def nb_Net_listCookies_9 (v1 : Int) (n : NS) : Option ((Int × NS) ⊕ (NS)) :=
  if v1 < (n 6 0 6) then
    ck (3 * v1) <|
    ix (3 * v1) 60 <|
    ty n 1586 101 <|
    if (n 25 0 (3 * v1)) = (n 99 1586 1) then
      if 0 < (n 4 607 2) then
        (N_Bytes_add 607 59 n).bind fun n17 =>
        nk_Net_listCookies_55 v1 n17
      else
        nk_Net_listCookies_55 v1 n
    else
      ck (v1 + 1) <|
      some (.inl (v1 + 1, n))
  else
    some (.inr n)
theorem fb_Net_listCookies_9 {w y : Prop} {g : g_S} {n : NS} {m : YS} (hw : w) {xv1 : Int32} {v1 : Int} (ev1 : xv1 = Int32.ofInt v1) (rv1 : inR v1) (hR : RC w y g n m) : Rf (RS (fun a b => RI a.1 b.1 ∧ RC w y a.2 b.2 m) (fun a b => RC w y a b m)) (b_Net_listCookies_9 1569 xv1 g) (nb_Net_listCookies_9 v1 n) := by
  subst ev1
  unfold b_Net_listCookies_9 nb_Net_listCookies_9
  refine c_I (s := 6) hR (sK6 hR hw) rfl rfl (fun h1 => ?_)
  refine rf_lt rfl rfl rv1 h1 ?_ ?_
  · refine c_S hR hw (sK6 hR hw) (by decide) (show srf 6 0 5 = some 1576 from rfl) ?_
    refine rf_ck (fun h4 => ?_)
    refine s_L (L := 60) hR (sA25 hR hw) (lA25 hR hw) rfl (e_mul (e_n 3) rfl) h4 (fun h5 h6 => ?_)
    refine c_S hR hw (sK6 hR hw) (by decide) (show srf 6 0 15 = some 1586 from rfl) ?_
    refine rf_ty (t := 101) dS1586.1 hR (by decide) (fun h9 h10 => ?_)
    refine c_L (s := 1) hR (ce_dy hR dS1586 h10 (by decide)) rfl rfl (fun h8 => ?_)
    refine rf_leq rfl rfl h6 h8 ?_ ?_
    · refine c_S hR hw (sK6 hR hw) (by decide) (show srf 6 0 11 = some 1580 from rfl) ?_
      refine c_I (s := 2) hR (bS607 ▸ (ce_by hR hw (by decide))) rfl rfl (fun h13 => ?_)
      refine rf_lt (e_n 0) rfl (show inR 0 by decide) h13 ?_ ?_
      · refine c_S hR hw (sK6 hR hw) (by decide) (show srf 6 0 11 = some 1580 from rfl) ?_
        refine v_c (bS607 ▸ (ce_by hR hw (by decide))).1 ?_
        refine rf_bind (f_Bytes_add hw bS607.symm (by decide) (e_n 59) (show inR 59 by decide) hR) (fun g19 n17 hR18 => ?_)
        exact fk_Net_listCookies_55 hw rfl rv1 hR18
      · exact fk_Net_listCookies_55 hw rfl rv1 hR
    · refine rf_ck (fun h20 => ?_)
      exact rf_ok (by exact ⟨⟨(e_add rfl (e_n 1)), h20⟩, hR⟩)
  · exact rf_ok (by exact hR)
noncomputable def NL_Net_listCookies_9 (v1 : Int) (n : NS) : Option (NS) :=
  it (fun s : Int × NS => nb_Net_listCookies_9 s.1 s.2) (v1, n)
theorem fL_Net_listCookies_9 {w y : Prop} {g : g_S} {n : NS} {m : YS} (hw : w) {xv1 : Int32} {v1 : Int} (ev1 : xv1 = Int32.ofInt v1) (rv1 : inR v1) (hR : RC w y g n m) : Rf (fun a b => RC w y a b m) (L_Net_listCookies_9 1569 xv1 g) (NL_Net_listCookies_9 v1 n) := by
  subst ev1
  unfold L_Net_listCookies_9 NL_Net_listCookies_9
  refine rf_it (I := (fun a b => RI a.1 b.1 ∧ RC w y a.2 b.2 m)) (fun s t h => ?_) ⟨⟨rfl, rv1⟩, hR⟩
  exact fb_Net_listCookies_9 hw h.1.1 h.1.2 h.2
theorem NL_Net_listCookies_9_eq (v1 : Int) (n : NS) : NL_Net_listCookies_9 v1 n = itc (nb_Net_listCookies_9 v1 n) (fun s => NL_Net_listCookies_9 s.1 s.2) := it_eq2 (fun s : Int × NS => nb_Net_listCookies_9 s.1 s.2) (v1, n)
noncomputable def N_Net_listCookies (n : NS) : Option (NS) :=
  (N_Bytes_clear 607 n).bind fun n3 =>
  (NL_Net_listCookies_9 0 n3).bind <| fun n6 =>
  some n6
theorem f_Net_listCookies {w y : Prop} {g : g_S} {n : NS} {m : YS} (hw : w) (hR : RC w y g n m) : Rf (fun a b => RC w y a b m) (M_Net_listCookies 1569 g) (N_Net_listCookies n) := by
  unfold M_Net_listCookies N_Net_listCookies
  refine c_S hR hw (sK6 hR hw) (by decide) (show srf 6 0 11 = some 1580 from rfl) ?_
  refine v_c (bS607 ▸ (ce_by hR hw (by decide))).1 ?_
  refine rf_bind (f_Bytes_clear hw bS607.symm (by decide) hR) (fun g5 n3 hR4 => ?_)
  refine rf_bind (fL_Net_listCookies_9 hw (e_n 0) (show inR 0 by decide) hR4) (fun a7 n6 h => ?_)
  have hR8 : RC w y a7 n6 m := h
  exact rf_ok (by exact hR8)
noncomputable def nb_Net_rowOf_3 (v0 : Nat) (v1 : Int) (v2 : Int) (v4 : Int) (v6 : Int) (n : NS) : Option ((Int) ⊕ ((Int) ⊕ (Unit))) :=
  if v6 < v1 then
    ck (3 * v6) <|
    ix (3 * v6) 60 <|
    if (n v0 0 (3 * v6)) = v2 then
      ck (3 * v6) <|
      ck ((3 * v6) + 1) <|
      ix ((3 * v6) + 1) 60 <|
      if (n v0 0 ((3 * v6) + 1)) = v4 then
        some (.inr (.inl v6))
      else
        ck (v6 + 1) <|
        some (.inl (v6 + 1))
    else
      ck (v6 + 1) <|
      some (.inl (v6 + 1))
  else
    some (.inr (.inr ()))
theorem fb_Net_rowOf_3 {w y : Prop} {g : g_S} {n : NS} {m : YS} (hw : w) {xv0 : Nat} {v0 : Nat} (ev0 : xv0 = aK v0) (rv0 : v0 = 25 ∨ v0 = 26) {xv1 : Int32} {v1 : Int} (ev1 : xv1 = Int32.ofInt v1) (rv1 : inR v1) {xv2 : Int64} {v2 : Int} (ev2 : xv2 = Int64.ofInt v2) (rv2 : inL v2) {xv4 : Int64} {v4 : Int} (ev4 : xv4 = Int64.ofInt v4) (rv4 : inL v4) {xv6 : Int32} {v6 : Int} (ev6 : xv6 = Int32.ofInt v6) (rv6 : inR v6) (hR : RC w y g n m) : Rf (RS (fun a b => RI a b) (RS (fun a b => RI a b) (fun _ _ => True))) (b_Net_rowOf_3 xv0 xv1 xv2 xv4 xv6 g) (nb_Net_rowOf_3 v0 v1 v2 v4 v6 n) := by
  subst ev0
  subst ev1
  subst ev2
  subst ev4
  subst ev6
  unfold b_Net_rowOf_3 nb_Net_rowOf_3
  refine rf_lt rfl rfl rv6 rv1 ?_ ?_
  · refine rf_ck (fun h2 => ?_)
    refine s_L (L := 60) hR (ce_J hR hw rv0) (ln_J hR hw rv0) rfl (e_mul (e_n 3) rfl) h2 (fun h3 h4 => ?_)
    refine rf_leq rfl rfl h4 rv2 ?_ ?_
    · refine rf_ck (fun h6 => ?_)
      refine rf_ck (fun h7 => ?_)
      refine s_L (L := 60) hR (ce_J hR hw rv0) (ln_J hR hw rv0) rfl (e_add (e_mul (e_n 3) rfl) (e_n 1)) h7 (fun h8 h9 => ?_)
      refine rf_leq rfl rfl h9 rv4 ?_ ?_
      · exact rf_ok (by exact ⟨rfl, rv6⟩)
      · refine rf_ck (fun h11 => ?_)
        exact rf_ok (by exact ⟨(e_add rfl (e_n 1)), h11⟩)
    · refine rf_ck (fun h12 => ?_)
      exact rf_ok (by exact ⟨(e_add rfl (e_n 1)), h12⟩)
  · exact rf_ok (by exact trivial)
noncomputable def NL_Net_rowOf_3 (v0 : Nat) (v1 : Int) (v2 : Int) (v4 : Int) (v6 : Int) (n : NS) : Option ((Int) ⊕ (Unit)) :=
  it (fun s : Int => nb_Net_rowOf_3 v0 v1 v2 v4 s n) (v6)
theorem fL_Net_rowOf_3 {w y : Prop} {g : g_S} {n : NS} {m : YS} (hw : w) {xv0 : Nat} {v0 : Nat} (ev0 : xv0 = aK v0) (rv0 : v0 = 25 ∨ v0 = 26) {xv1 : Int32} {v1 : Int} (ev1 : xv1 = Int32.ofInt v1) (rv1 : inR v1) {xv2 : Int64} {v2 : Int} (ev2 : xv2 = Int64.ofInt v2) (rv2 : inL v2) {xv4 : Int64} {v4 : Int} (ev4 : xv4 = Int64.ofInt v4) (rv4 : inL v4) {xv6 : Int32} {v6 : Int} (ev6 : xv6 = Int32.ofInt v6) (rv6 : inR v6) (hR : RC w y g n m) : Rf (RS (fun a b => RI a b) (fun _ _ => True)) (L_Net_rowOf_3 xv0 xv1 xv2 xv4 xv6 g) (NL_Net_rowOf_3 v0 v1 v2 v4 v6 n) := by
  subst ev0
  subst ev1
  subst ev2
  subst ev4
  subst ev6
  unfold L_Net_rowOf_3 NL_Net_rowOf_3
  refine rf_it (I := (fun a b => RI a b)) (fun s t h => ?_) ⟨rfl, rv6⟩
  exact fb_Net_rowOf_3 hw rfl rv0 rfl rv1 rfl rv2 rfl rv4 h.1 h.2 hR
theorem NL_Net_rowOf_3_eq (v0 : Nat) (v1 : Int) (v2 : Int) (v4 : Int) (v6 : Int) (n : NS) : NL_Net_rowOf_3 v0 v1 v2 v4 v6 n = itc (nb_Net_rowOf_3 v0 v1 v2 v4 v6 n) (fun s => NL_Net_rowOf_3 v0 v1 v2 v4 s n) := it_eq2 (fun s : Int => nb_Net_rowOf_3 v0 v1 v2 v4 s n) (v6)
noncomputable def N_Net_rowOf (v0 : Nat) (v1 : Int) (v2 : Int) (v4 : Int) (n : NS) : Option (Int) :=
  (NL_Net_rowOf_3 v0 v1 v2 v4 0 n).bind <|
    us (fun z1 =>
    some z1)
    (fun _ =>
    some v1)
theorem f_Net_rowOf {w y : Prop} {g : g_S} {n : NS} {m : YS} (hw : w) {xv0 : Nat} {v0 : Nat} (ev0 : xv0 = aK v0) (rv0 : v0 = 25 ∨ v0 = 26) {xv1 : Int32} {v1 : Int} (ev1 : xv1 = Int32.ofInt v1) (rv1 : inR v1) {xv2 : Int64} {v2 : Int} (ev2 : xv2 = Int64.ofInt v2) (rv2 : inL v2) {xv4 : Int64} {v4 : Int} (ev4 : xv4 = Int64.ofInt v4) (rv4 : inL v4) (hR : RC w y g n m) : Rf (fun a b => RI a b) (M_Net_rowOf xv0 xv1 xv2 xv4 g) (N_Net_rowOf v0 v1 v2 v4 n) := by
  subst ev0
  subst ev1
  subst ev2
  subst ev4
  unfold M_Net_rowOf N_Net_rowOf
  refine rf_bind (fL_Net_rowOf_3 hw rfl rv0 rfl rv1 rfl rv2 rfl rv4 (e_n 0) (show inR 0 by decide) hR) (fun a b h => rf_us h (fun a2 z1 h => ?_) (fun a b h => ?_))
  · obtain ⟨rfl, r3⟩ := (show RI a2 z1 from h)
    exact rf_ok (by exact ⟨rfl, r3⟩)
  · exact rf_ok (by exact ⟨rfl, rv1⟩)
noncomputable def N_Net_putRow (v0 : Nat) (v1 : Int) (v2 : Int) (v4 : Int) (v6 : Int) (n : NS) : Option (Int × NS) :=
  (N_Net_rowOf v0 v1 v2 v4 n).bind fun z2 =>
  if z2 = 20 then
    some (v1, n)
  else
    ck (3 * z2) <|
    ix (3 * z2) 60 <|
    st (nw n v0 0 (3 * z2) v2) fun n9 =>
    ck (3 * z2) <|
    ck ((3 * z2) + 1) <|
    ix ((3 * z2) + 1) 60 <|
    st (nw n9 v0 0 ((3 * z2) + 1) v4) fun n15 =>
    ck (3 * z2) <|
    ck ((3 * z2) + 2) <|
    ix ((3 * z2) + 2) 60 <|
    st (nw n15 v0 0 ((3 * z2) + 2) v6) fun n21 =>
    ck (z2 + 1) <|
    some (max v1 (z2 + 1), n21)
theorem f_Net_putRow {w y : Prop} {g : g_S} {n : NS} {m : YS} (hw : w) {xv0 : Nat} {v0 : Nat} (ev0 : xv0 = aK v0) (rv0 : v0 = 25 ∨ v0 = 26) {xv1 : Int32} {v1 : Int} (ev1 : xv1 = Int32.ofInt v1) (rv1 : inR v1) {xv2 : Int64} {v2 : Int} (ev2 : xv2 = Int64.ofInt v2) (rv2 : inL v2) {xv4 : Int64} {v4 : Int} (ev4 : xv4 = Int64.ofInt v4) (rv4 : inL v4) {xv6 : Int64} {v6 : Int} (ev6 : xv6 = Int64.ofInt v6) (rv6 : inL v6) (hR : RC w y g n m) : Rf (fun a b => RI a.1 b.1 ∧ RC w y a.2 b.2 m) (M_Net_putRow xv0 xv1 xv2 xv4 xv6 g) (N_Net_putRow v0 v1 v2 v4 v6 n) := by
  subst ev0
  subst ev1
  subst ev2
  subst ev4
  subst ev6
  unfold M_Net_putRow N_Net_putRow
  refine rf_bind (f_Net_rowOf hw rfl rv0 rfl rv1 rfl rv2 rfl rv4 hR) (fun a4 z2 h => ?_)
  obtain ⟨rfl, r3⟩ := h
  refine rf_eq rfl (e_n 20) r3 (show inR 20 by decide) ?_ ?_
  · exact rf_ok (by exact ⟨⟨rfl, rv1⟩, hR⟩)
  · refine rf_ck (fun h7 => ?_)
    refine t_L (L := 60) hR (ce_J hR hw rv0) (ln_J hR hw rv0) rfl (e_mul (e_n 3) rfl) h7 rfl rv2 (fun g11 n9 hR10 => ?_)
    refine rf_ck (fun h12 => ?_)
    refine rf_ck (fun h13 => ?_)
    refine t_L (L := 60) hR10 (ce_J hR10 hw rv0) (ln_J hR10 hw rv0) rfl (e_add (e_mul (e_n 3) rfl) (e_n 1)) h13 rfl rv4 (fun g17 n15 hR16 => ?_)
    refine rf_ck (fun h18 => ?_)
    refine rf_ck (fun h19 => ?_)
    refine t_L (L := 60) hR16 (ce_J hR16 hw rv0) (ln_J hR16 hw rv0) rfl (e_add (e_mul (e_n 3) rfl) (e_n 2)) h19 rfl rv6 (fun g23 n21 hR22 => ?_)
    refine rf_ck (fun h24 => ?_)
    exact rf_ok (by exact ⟨⟨(e_mx rfl (e_add rfl (e_n 1)) rv1 h24), (max_r rv1 h24)⟩, hR22⟩)
noncomputable def nb_Net_keep_2 (v1 : Int) (v2 : Int) (n : NS) : Option ((Int) ⊕ (Int)) :=
  if v2 < (n 6 0 4) then
    ix v2 8 <|
    nn (n 24 0 v2) <|
    ty n (n 24 0 v2) 102 <|
    nn (n 99 (n 24 0 v2) 0) <|
    ty n v1 102 <|
    nn (n 99 v1 0) <|
    ty n (n 99 (n 24 0 v2) 0) 101 <|
    (N_Address_isAt (n 99 (n 24 0 v2) 0) (n 99 v1 0) n).bind fun z15 =>
    if z15 = 0 then
      ck (v2 + 1) <|
      some (.inl (v2 + 1))
    else
      some (.inr v2)
  else
    some (.inr v2)
theorem fb_Net_keep_2 {w y : Prop} {g : g_S} {n : NS} {m : YS} (hw : w) {xv1 : Nat} {v1 : Int} (ev1 : xv1 = Int.toNat v1) (rv1 : 0 ≤ v1 ∧ lc (Int.toNat v1) = (99, v1)) {xv2 : Int32} {v2 : Int} (ev2 : xv2 = Int32.ofInt v2) (rv2 : inR v2) (hR : RC w y g n m) : Rf (RS (fun a b => RI a b) (fun a b => RI a b)) (b_Net_keep_2 1569 xv1 xv2 g) (nb_Net_keep_2 v1 v2 n) := by
  subst ev1
  subst ev2
  unfold b_Net_keep_2 nb_Net_keep_2
  refine c_I (s := 4) hR (sK6 hR hw) rfl rfl (fun h1 => ?_)
  refine rf_lt rfl rfl rv2 h1 ?_ ?_
  · refine c_S hR hw (sK6 hR hw) (by decide) (show srf 6 0 3 = some 1575 from rfl) ?_
    refine s_D (L := 8) hR (sA24 hR hw) (by decide) (lA24 hR hw) rfl rfl rv2 (fun h4 h5 => ?_)
    refine rf_ty (t := 102) h5.1 hR (by decide) (fun h7 h8 => ?_)
    refine c_D (s := 0) hR (ce_dy hR h5 h8 (by decide)) rfl rfl rfl (fun h6 => ?_)
    refine rf_ty (t := 102) rv1.1 hR (by decide) (fun h10 h11 => ?_)
    refine c_D (s := 0) hR (ce_dy hR rv1 h11 (by decide)) rfl rfl rfl (fun h9 => ?_)
    refine rf_ty (t := 101) h6.1 hR (by decide) (fun h13 h14 => ?_)
    refine v_c h13 ?_
    refine rf_bind (f_Address_isAt rfl h6 rfl h9 hR) (fun a17 z15 h => ?_)
    obtain ⟨rfl, r16⟩ := h
    refine rf_eq rfl (e_n 0) (inZ.r r16) (show inR 0 by decide) ?_ ?_
    · refine rf_ck (fun h19 => ?_)
      exact rf_ok (by exact ⟨(e_add rfl (e_n 1)), h19⟩)
    · exact rf_ok (by exact ⟨rfl, rv2⟩)
  · exact rf_ok (by exact ⟨rfl, rv2⟩)
noncomputable def NL_Net_keep_2 (v1 : Int) (v2 : Int) (n : NS) : Option (Int) :=
  it (fun s : Int => nb_Net_keep_2 v1 s n) (v2)
theorem fL_Net_keep_2 {w y : Prop} {g : g_S} {n : NS} {m : YS} (hw : w) {xv1 : Nat} {v1 : Int} (ev1 : xv1 = Int.toNat v1) (rv1 : 0 ≤ v1 ∧ lc (Int.toNat v1) = (99, v1)) {xv2 : Int32} {v2 : Int} (ev2 : xv2 = Int32.ofInt v2) (rv2 : inR v2) (hR : RC w y g n m) : Rf (fun a b => RI a b) (L_Net_keep_2 1569 xv1 xv2 g) (NL_Net_keep_2 v1 v2 n) := by
  subst ev1
  subst ev2
  unfold L_Net_keep_2 NL_Net_keep_2
  refine rf_it (I := (fun a b => RI a b)) (fun s t h => ?_) ⟨rfl, rv2⟩
  exact fb_Net_keep_2 hw rfl rv1 h.1 h.2 hR
theorem NL_Net_keep_2_eq (v1 : Int) (v2 : Int) (n : NS) : NL_Net_keep_2 v1 v2 n = itc (nb_Net_keep_2 v1 v2 n) (fun s => NL_Net_keep_2 v1 s n) := it_eq2 (fun s : Int => nb_Net_keep_2 v1 s n) (v2)
noncomputable def nb_Net_keep_77 (v1 : Int) (v3 : Int) (n : NS) : Option ((Int × NS) ⊕ (NS)) :=
  ck (v3 + 1) <|
  if (v3 + 1) < (n 6 0 4) then
    ck (v3 + 1) <|
    ix (v3 + 1) 8 <|
    nn (n 24 0 (v3 + 1)) <|
    ty n (n 24 0 (v3 + 1)) 102 <|
    ix v3 8 <|
    st (nw n 24 0 v3 (n 24 0 (v3 + 1))) fun n12 =>
    ck (v3 + 1) <|
    some (.inl (v3 + 1, n12))
  else
    some (.inr n)
theorem fb_Net_keep_77 {w y : Prop} {g : g_S} {n : NS} {m : YS} (hw : w) {xv1 : Nat} {v1 : Int} (ev1 : xv1 = Int.toNat v1) (rv1 : 0 ≤ v1 ∧ lc (Int.toNat v1) = (99, v1)) {xv3 : Int32} {v3 : Int} (ev3 : xv3 = Int32.ofInt v3) (rv3 : inR v3) (hR : RC w y g n m) : Rf (RS (fun a b => RI a.1 b.1 ∧ RC w y a.2 b.2 m) (fun a b => RC w y a b m)) (b_Net_keep_77 1569 xv1 xv3 g) (nb_Net_keep_77 v1 v3 n) := by
  subst ev1
  subst ev3
  unfold b_Net_keep_77 nb_Net_keep_77
  refine rf_ck (fun h1 => ?_)
  refine c_I (s := 4) hR (sK6 hR hw) rfl rfl (fun h2 => ?_)
  refine rf_lt (e_add rfl (e_n 1)) rfl h1 h2 ?_ ?_
  · refine c_S hR hw (sK6 hR hw) (by decide) (show srf 6 0 3 = some 1575 from rfl) ?_
    refine c_S hR hw (sK6 hR hw) (by decide) (show srf 6 0 3 = some 1575 from rfl) ?_
    refine rf_ck (fun h6 => ?_)
    refine s_D (L := 8) hR (sA24 hR hw) (by decide) (lA24 hR hw) rfl (e_add rfl (e_n 1)) h6 (fun h7 h8 => ?_)
    refine rf_ty (t := 102) h8.1 hR (by decide) (fun h10 h11 => ?_)
    refine t_Q (L := 8) hR (sA24 hR hw) (by decide) (lA24 hR hw) rfl rfl rv3 (fun _ => rfl) h10 (rc_d h8) (fun g14 n12 hR13 => ?_)
    refine rf_ck (fun h15 => ?_)
    exact rf_ok (by exact ⟨⟨(e_add rfl (e_n 1)), h15⟩, hR13⟩)
  · exact rf_ok (by exact hR)
noncomputable def NL_Net_keep_77 (v1 : Int) (v3 : Int) (n : NS) : Option (NS) :=
  it (fun s : Int × NS => nb_Net_keep_77 v1 s.1 s.2) (v3, n)
theorem fL_Net_keep_77 {w y : Prop} {g : g_S} {n : NS} {m : YS} (hw : w) {xv1 : Nat} {v1 : Int} (ev1 : xv1 = Int.toNat v1) (rv1 : 0 ≤ v1 ∧ lc (Int.toNat v1) = (99, v1)) {xv3 : Int32} {v3 : Int} (ev3 : xv3 = Int32.ofInt v3) (rv3 : inR v3) (hR : RC w y g n m) : Rf (fun a b => RC w y a b m) (L_Net_keep_77 1569 xv1 xv3 g) (NL_Net_keep_77 v1 v3 n) := by
  subst ev1
  subst ev3
  unfold L_Net_keep_77 NL_Net_keep_77
  refine rf_it (I := (fun a b => RI a.1 b.1 ∧ RC w y a.2 b.2 m)) (fun s t h => ?_) ⟨⟨rfl, rv3⟩, hR⟩
  exact fb_Net_keep_77 hw rfl rv1 h.1.1 h.1.2 h.2
theorem NL_Net_keep_77_eq (v1 : Int) (v3 : Int) (n : NS) : NL_Net_keep_77 v1 v3 n = itc (nb_Net_keep_77 v1 v3 n) (fun s => NL_Net_keep_77 v1 s.1 s.2) := it_eq2 (fun s : Int × NS => nb_Net_keep_77 v1 s.1 s.2) (v3, n)
noncomputable def nk_Net_keep_75 (v1 : Int) (v2 : Int) (n : NS) : Option (NS) :=
  (NL_Net_keep_77 v1 v2 n).bind <| fun n1 =>
  ck ((n1 6 0 4) - 1) <|
  ty n1 v1 102 <|
  ix ((n1 6 0 4) - 1) 8 <|
  st (nw n1 24 0 ((n1 6 0 4) - 1) v1) fun n10 =>
  ty n10 v1 102 <|
  ck ((n10 6 0 12) + (n10 99 v1 1)) <|
  ty n10 v1 102 <|
  st (nw n10 99 v1 7 ((n10 6 0 12) + (n10 99 v1 1))) fun n21 =>
  some n21
theorem fk_Net_keep_75 {w y : Prop} {g : g_S} {n : NS} {m : YS} (hw : w) {xv1 : Nat} {v1 : Int} (ev1 : xv1 = Int.toNat v1) (rv1 : 0 ≤ v1 ∧ lc (Int.toNat v1) = (99, v1)) {xv2 : Int32} {v2 : Int} (ev2 : xv2 = Int32.ofInt v2) (rv2 : inR v2) (hR : RC w y g n m) : Rf (fun a b => RC w y a b m) (k_Net_keep_75 1569 xv1 xv2 g) (nk_Net_keep_75 v1 v2 n) := by
  subst ev1
  subst ev2
  unfold k_Net_keep_75 nk_Net_keep_75
  refine rf_bind (fL_Net_keep_77 hw rfl rv1 rfl rv2 hR) (fun a2 n1 h => ?_)
  have hR3 : RC w y a2 n1 m := h
  refine c_S hR3 hw (sK6 hR3 hw) (by decide) (show srf 6 0 3 = some 1575 from rfl) ?_
  refine c_I (s := 4) hR3 (sK6 hR3 hw) rfl rfl (fun h5 => ?_)
  refine rf_ck (fun h6 => ?_)
  refine rf_ty (t := 102) rv1.1 hR3 (by decide) (fun h8 h9 => ?_)
  refine t_Q (L := 8) hR3 (sA24 hR3 hw) (by decide) (lA24 hR3 hw) rfl (e_sub rfl (e_n 1)) h6 (fun _ => rfl) h8 (rc_d rv1) (fun g12 n10 hR11 => ?_)
  refine c_I (s := 12) hR11 (sK6 hR11 hw) rfl rfl (fun h13 => ?_)
  refine rf_ty (t := 102) rv1.1 hR11 (by decide) (fun h15 h16 => ?_)
  refine c_I (s := 1) hR11 (ce_dy hR11 rv1 h16 (by decide)) rfl rfl (fun h14 => ?_)
  refine rf_ck (fun h17 => ?_)
  refine rf_ty (t := 102) rv1.1 hR11 (by decide) (fun h19 h20 => ?_)
  refine p_I (s := 7) hR11 (ce_dy hR11 rv1 h20 (by decide)) rfl ⟨rfl, rfl, by decide⟩ (e_add rfl rfl) h17 (fun g23 n21 hR22 => ?_)
  exact rf_ok (by exact hR22)
noncomputable def nk_Net_keep_65 (v1 : Int) (v2 : Int) (n : NS) : Option (NS) :=
  if v2 = (n 6 0 4) then
    nk_Net_keep_75 v1 0 n
  else
    nk_Net_keep_75 v1 v2 n
theorem fk_Net_keep_65 {w y : Prop} {g : g_S} {n : NS} {m : YS} (hw : w) {xv1 : Nat} {v1 : Int} (ev1 : xv1 = Int.toNat v1) (rv1 : 0 ≤ v1 ∧ lc (Int.toNat v1) = (99, v1)) {xv2 : Int32} {v2 : Int} (ev2 : xv2 = Int32.ofInt v2) (rv2 : inR v2) (hR : RC w y g n m) : Rf (fun a b => RC w y a b m) (k_Net_keep_65 1569 xv1 xv2 g) (nk_Net_keep_65 v1 v2 n) := by
  subst ev1
  subst ev2
  unfold k_Net_keep_65 nk_Net_keep_65
  refine c_I (s := 4) hR (sK6 hR hw) rfl rfl (fun h1 => ?_)
  refine rf_eq rfl rfl rv2 h1 ?_ ?_
  · exact fk_Net_keep_75 hw rfl rv1 (e_n 0) (show inR 0 by decide) hR
  · exact fk_Net_keep_75 hw rfl rv1 rfl rv2 hR
noncomputable def nk_Net_keep_35 (v1 : Int) (v2 : Int) (n : NS) : Option (NS) :=
  if v2 = (n 6 0 4) then
    if (n 6 0 4) < 8 then
      ck ((n 6 0 4) + 1) <|
      st (nw n 6 0 4 ((n 6 0 4) + 1)) fun n8 =>
      nk_Net_keep_75 v1 v2 n8
    else
      nk_Net_keep_65 v1 v2 n
  else
    nk_Net_keep_65 v1 v2 n
theorem fk_Net_keep_35 {w y : Prop} {g : g_S} {n : NS} {m : YS} (hw : w) {xv1 : Nat} {v1 : Int} (ev1 : xv1 = Int.toNat v1) (rv1 : 0 ≤ v1 ∧ lc (Int.toNat v1) = (99, v1)) {xv2 : Int32} {v2 : Int} (ev2 : xv2 = Int32.ofInt v2) (rv2 : inR v2) (hR : RC w y g n m) : Rf (fun a b => RC w y a b m) (k_Net_keep_35 1569 xv1 xv2 g) (nk_Net_keep_35 v1 v2 n) := by
  subst ev1
  subst ev2
  unfold k_Net_keep_35 nk_Net_keep_35
  refine c_I (s := 4) hR (sK6 hR hw) rfl rfl (fun h1 => ?_)
  refine rf_eq rfl rfl rv2 h1 ?_ ?_
  · refine c_I (s := 4) hR (sK6 hR hw) rfl rfl (fun h3 => ?_)
    refine rf_lt rfl (e_n 8) h3 (show inR 8 by decide) ?_ ?_
    · refine c_I (s := 4) hR (sK6 hR hw) rfl rfl (fun h5 => ?_)
      refine rf_ck (fun h6 => ?_)
      refine p_I (s := 4) hR (sK6 hR hw) rfl ⟨rfl, rfl, by decide⟩ (e_add rfl (e_n 1)) h6 (fun g10 n8 hR9 => ?_)
      exact fk_Net_keep_75 hw rfl rv1 rfl rv2 hR9
    · exact fk_Net_keep_65 hw rfl rv1 rfl rv2 hR
  · exact fk_Net_keep_65 hw rfl rv1 rfl rv2 hR
noncomputable def N_Net_keep (v1 : Int) (n : NS) : Option (NS) :=
  (NL_Net_keep_2 v1 0 n).bind <| fun z1 =>
  nk_Net_keep_35 v1 z1 n
theorem f_Net_keep {w y : Prop} {g : g_S} {n : NS} {m : YS} (hw : w) {xv1 : Nat} {v1 : Int} (ev1 : xv1 = Int.toNat v1) (rv1 : 0 ≤ v1 ∧ lc (Int.toNat v1) = (99, v1)) (hR : RC w y g n m) : Rf (fun a b => RC w y a b m) (M_Net_keep 1569 xv1 g) (N_Net_keep v1 n) := by
  subst ev1
  unfold M_Net_keep N_Net_keep
  refine rf_bind (fL_Net_keep_2 hw rfl rv1 (e_n 0) (show inR 0 by decide) hR) (fun a2 z1 h => ?_)
  obtain ⟨rfl, r3⟩ := (show RI a2 z1 from h)
  exact fk_Net_keep_35 hw rfl rv1 rfl r3 hR
noncomputable def nb_Net_ask_90 (v1 : Int) (v2 : Int) (n : NS) : Option ((Int × Int) ⊕ (Int)) :=
  if v2 < (n 6 0 2) then
    ix v2 12 <|
    nn (n 23 0 v2) <|
    ty n (n 23 0 v2) 102 <|
    nn (n 99 (n 23 0 v2) 0) <|
    ty n (n 99 (n 23 0 v2) 0) 101 <|
    (N_Address_isAt (n 99 (n 23 0 v2) 0) 1586 n).bind fun z13 =>
    if z13 = 0 then
      ck (v2 + 1) <|
      some (.inl (v1, v2 + 1))
    else
      ix v2 12 <|
      nn (n 23 0 v2) <|
      ck (v2 + 1) <|
      some (.inl ((n 23 0 v2), v2 + 1))
  else
    some (.inr v1)
theorem fb_Net_ask_90 {w y : Prop} {g : g_S} {n : NS} {m : YS} (hw : w) {xv1 : Nat} {v1 : Int} (ev1 : xv1 = Int.toNat v1) (rv1 : 0 ≤ v1 ∧ lc (Int.toNat v1) = (99, v1)) {xv2 : Int32} {v2 : Int} (ev2 : xv2 = Int32.ofInt v2) (rv2 : inR v2) (hR : RC w y g n m) : Rf (RS (fun a b => RD a.1 b.1 ∧ RI a.2 b.2) (fun a b => RD a b)) (b_Net_ask_90 1569 xv1 xv2 g) (nb_Net_ask_90 v1 v2 n) := by
  subst ev1
  subst ev2
  unfold b_Net_ask_90 nb_Net_ask_90
  refine c_I (s := 2) hR (sK6 hR hw) rfl rfl (fun h1 => ?_)
  refine rf_lt rfl rfl rv2 h1 ?_ ?_
  · refine c_S hR hw (sK6 hR hw) (by decide) (show srf 6 0 1 = some 1574 from rfl) ?_
    refine s_D (L := 12) hR (sA23 hR hw) (by decide) (lA23 hR hw) rfl rfl rv2 (fun h4 h5 => ?_)
    refine rf_ty (t := 102) h5.1 hR (by decide) (fun h7 h8 => ?_)
    refine c_D (s := 0) hR (ce_dy hR h5 h8 (by decide)) rfl rfl rfl (fun h6 => ?_)
    refine c_S hR hw (sK6 hR hw) (by decide) (show srf 6 0 15 = some 1586 from rfl) ?_
    refine rf_ty (t := 101) h6.1 hR (by decide) (fun h11 h12 => ?_)
    refine v_c h11 ?_
    refine rf_bind (f_Address_isAt rfl h6 rfl dS1586 hR) (fun a15 z13 h => ?_)
    obtain ⟨rfl, r14⟩ := h
    refine rf_eq rfl (e_n 0) (inZ.r r14) (show inR 0 by decide) ?_ ?_
    · refine rf_ck (fun h17 => ?_)
      exact rf_ok (by exact ⟨⟨rfl, rv1⟩, ⟨(e_add rfl (e_n 1)), h17⟩⟩)
    · refine c_S hR hw (sK6 hR hw) (by decide) (show srf 6 0 1 = some 1574 from rfl) ?_
      refine s_D (L := 12) hR (sA23 hR hw) (by decide) (lA23 hR hw) rfl rfl rv2 (fun h19 h20 => ?_)
      refine rf_ck (fun h21 => ?_)
      exact rf_ok (by exact ⟨⟨rfl, h20⟩, ⟨(e_add rfl (e_n 1)), h21⟩⟩)
  · exact rf_ok (by exact ⟨rfl, rv1⟩)
noncomputable def NL_Net_ask_90 (v1 : Int) (v2 : Int) (n : NS) : Option (Int) :=
  it (fun s : Int × Int => nb_Net_ask_90 s.1 s.2 n) (v1, v2)
theorem fL_Net_ask_90 {w y : Prop} {g : g_S} {n : NS} {m : YS} (hw : w) {xv1 : Nat} {v1 : Int} (ev1 : xv1 = Int.toNat v1) (rv1 : 0 ≤ v1 ∧ lc (Int.toNat v1) = (99, v1)) {xv2 : Int32} {v2 : Int} (ev2 : xv2 = Int32.ofInt v2) (rv2 : inR v2) (hR : RC w y g n m) : Rf (fun a b => RD a b) (L_Net_ask_90 1569 xv1 xv2 g) (NL_Net_ask_90 v1 v2 n) := by
  subst ev1
  subst ev2
  unfold L_Net_ask_90 NL_Net_ask_90
  refine rf_it (I := (fun a b => RD a.1 b.1 ∧ RI a.2 b.2)) (fun s t h => ?_) ⟨⟨rfl, rv1⟩, ⟨rfl, rv2⟩⟩
  exact fb_Net_ask_90 hw h.1.1 h.1.2 h.2.1 h.2.2 hR
theorem NL_Net_ask_90_eq (v1 : Int) (v2 : Int) (n : NS) : NL_Net_ask_90 v1 v2 n = itc (nb_Net_ask_90 v1 v2 n) (fun s => NL_Net_ask_90 s.1 s.2 n) := it_eq2 (fun s : Int × Int => nb_Net_ask_90 s.1 s.2 n) (v1, v2)
noncomputable def nb_Net_ask_2 (v1 : Int) (n : NS) : Option ((Int) ⊕ ((Int) ⊕ (Unit))) :=
  if v1 < (n 6 0 4) then
    ix v1 8 <|
    nn (n 24 0 v1) <|
    ty n (n 24 0 v1) 102 <|
    if (n 6 0 12) < (n 99 (n 24 0 v1) 7) then
      ix v1 8 <|
      nn (n 24 0 v1) <|
      ty n (n 24 0 v1) 102 <|
      nn (n 99 (n 24 0 v1) 0) <|
      ty n (n 99 (n 24 0 v1) 0) 101 <|
      (N_Address_isAt (n 99 (n 24 0 v1) 0) 1586 n).bind fun z21 =>
      if z21 = 0 then
        ck (v1 + 1) <|
        some (.inl (v1 + 1))
      else
        some (.inr (.inl v1))
    else
      ck (v1 + 1) <|
      some (.inl (v1 + 1))
  else
    some (.inr (.inr ()))
theorem fb_Net_ask_2 {w y : Prop} {g : g_S} {n : NS} {m : YS} (hw : w) {xv1 : Int32} {v1 : Int} (ev1 : xv1 = Int32.ofInt v1) (rv1 : inR v1) (hR : RC w y g n m) : Rf (RS (fun a b => RI a b) (RS (fun a b => RI a b) (fun _ _ => True))) (b_Net_ask_2 1569 xv1 g) (nb_Net_ask_2 v1 n) := by
  subst ev1
  unfold b_Net_ask_2 nb_Net_ask_2
  refine c_I (s := 4) hR (sK6 hR hw) rfl rfl (fun h1 => ?_)
  refine rf_lt rfl rfl rv1 h1 ?_ ?_
  · refine c_S hR hw (sK6 hR hw) (by decide) (show srf 6 0 3 = some 1575 from rfl) ?_
    refine s_D (L := 8) hR (sA24 hR hw) (by decide) (lA24 hR hw) rfl rfl rv1 (fun h4 h5 => ?_)
    refine rf_ty (t := 102) h5.1 hR (by decide) (fun h7 h8 => ?_)
    refine c_I (s := 7) hR (ce_dy hR h5 h8 (by decide)) rfl rfl (fun h6 => ?_)
    refine c_I (s := 12) hR (sK6 hR hw) rfl rfl (fun h9 => ?_)
    refine rf_lt rfl rfl h9 h6 ?_ ?_
    · refine c_S hR hw (sK6 hR hw) (by decide) (show srf 6 0 3 = some 1575 from rfl) ?_
      refine s_D (L := 8) hR (sA24 hR hw) (by decide) (lA24 hR hw) rfl rfl rv1 (fun h12 h13 => ?_)
      refine rf_ty (t := 102) h13.1 hR (by decide) (fun h15 h16 => ?_)
      refine c_D (s := 0) hR (ce_dy hR h13 h16 (by decide)) rfl rfl rfl (fun h14 => ?_)
      refine c_S hR hw (sK6 hR hw) (by decide) (show srf 6 0 15 = some 1586 from rfl) ?_
      refine rf_ty (t := 101) h14.1 hR (by decide) (fun h19 h20 => ?_)
      refine v_c h19 ?_
      refine rf_bind (f_Address_isAt rfl h14 rfl dS1586 hR) (fun a23 z21 h => ?_)
      obtain ⟨rfl, r22⟩ := h
      refine rf_eq rfl (e_n 0) (inZ.r r22) (show inR 0 by decide) ?_ ?_
      · refine rf_ck (fun h25 => ?_)
        exact rf_ok (by exact ⟨(e_add rfl (e_n 1)), h25⟩)
      · exact rf_ok (by exact ⟨rfl, rv1⟩)
    · refine rf_ck (fun h26 => ?_)
      exact rf_ok (by exact ⟨(e_add rfl (e_n 1)), h26⟩)
  · exact rf_ok (by exact trivial)
noncomputable def NL_Net_ask_2 (v1 : Int) (n : NS) : Option ((Int) ⊕ (Unit)) :=
  it (fun s : Int => nb_Net_ask_2 s n) (v1)
theorem fL_Net_ask_2 {w y : Prop} {g : g_S} {n : NS} {m : YS} (hw : w) {xv1 : Int32} {v1 : Int} (ev1 : xv1 = Int32.ofInt v1) (rv1 : inR v1) (hR : RC w y g n m) : Rf (RS (fun a b => RI a b) (fun _ _ => True)) (L_Net_ask_2 1569 xv1 g) (NL_Net_ask_2 v1 n) := by
  subst ev1
  unfold L_Net_ask_2 NL_Net_ask_2
  refine rf_it (I := (fun a b => RI a b)) (fun s t h => ?_) ⟨rfl, rv1⟩
  exact fb_Net_ask_2 hw h.1 h.2 hR
theorem NL_Net_ask_2_eq (v1 : Int) (n : NS) : NL_Net_ask_2 v1 n = itc (nb_Net_ask_2 v1 n) (fun s => NL_Net_ask_2 s n) := it_eq2 (fun s : Int => nb_Net_ask_2 s n) (v1)
noncomputable def nk_Net_ask_169 (v1 : Int) (n : NS) : Option (Int × NS) :=
  ty n v1 102 <|
  if 0 < (n 99 v1 1) then
    (N_Net_keep v1 n).bind fun n6 =>
    some (v1, n6)
  else
    some (v1, n)
theorem fk_Net_ask_169 {w y : Prop} {g : g_S} {n : NS} {m : YS} (hw : w) {xv1 : Nat} {v1 : Int} (ev1 : xv1 = Int.toNat v1) (rv1 : 0 ≤ v1 ∧ lc (Int.toNat v1) = (99, v1)) (hR : RC w y g n m) : Rf (fun a b => RD a.1 b.1 ∧ RC w y a.2 b.2 m) (k_Net_ask_169 1569 xv1 g) (nk_Net_ask_169 v1 n) := by
  subst ev1
  unfold k_Net_ask_169 nk_Net_ask_169
  refine rf_ty (t := 102) rv1.1 hR (by decide) (fun h2 h3 => ?_)
  refine c_I (s := 1) hR (ce_dy hR rv1 h3 (by decide)) rfl rfl (fun h1 => ?_)
  refine rf_lt (e_n 0) rfl (show inR 0 by decide) h1 ?_ ?_
  · refine v_c (sK6 hR hw).1 ?_
    refine rf_bind (f_Net_keep hw rfl rv1 hR) (fun g8 n6 hR7 => ?_)
    exact rf_ok (by exact ⟨⟨rfl, rv1⟩, hR7⟩)
  · exact rf_ok (by exact ⟨⟨rfl, rv1⟩, hR⟩)
noncomputable def N_Net_ask (n : NS) : Option (Int × NS) :=
  (NL_Net_ask_2 0 n).bind <|
    us (fun z1 =>
    ix z1 8 <|
    nn (n 24 0 z1) <|
    some ((n 24 0 z1), n))
    (fun _ =>
    ck ((n 6 0 9) + 1) <|
    st (nw n 6 0 9 ((n 6 0 9) + 1)) fun n11 =>
    ty n11 1578 101 <|
    (N_Address_copy 1578 1586 n11).bind fun n19 =>
    (N_Net_listCookies n19).bind fun n23 =>
    (NL_Net_ask_90 1570 0 n23).bind <| fun z27 =>
    ty n23 z27 102 <|
    if (n23 99 z27 2) = 0 then
      nk_Net_ask_169 z27 n23
    else
      ty n23 1586 101 <|
      ty n23 z27 102 <|
      ty n23 z27 102 <|
      (N_Net_putRow 25 (n23 6 0 6) (n23 99 1586 1) (n23 99 z27 2) (n23 99 z27 3) n23).bind <| u2 fun z47 n50 =>
      st (nw n50 6 0 6 z47) fun n54 =>
      nk_Net_ask_169 z27 n54)
theorem f_Net_ask {w y : Prop} {g : g_S} {n : NS} {m : YS} (hw : w) (hR : RC w y g n m) : Rf (fun a b => RD a.1 b.1 ∧ RC w y a.2 b.2 m) (M_Net_ask 1569 g) (N_Net_ask n) := by
  unfold M_Net_ask N_Net_ask
  refine rf_bind (fL_Net_ask_2 hw (e_n 0) (show inR 0 by decide) hR) (fun a b h => rf_us h (fun a2 z1 h => ?_) (fun a b h => ?_))
  · obtain ⟨rfl, r3⟩ := (show RI a2 z1 from h)
    refine c_S hR hw (sK6 hR hw) (by decide) (show srf 6 0 3 = some 1575 from rfl) ?_
    refine s_D (L := 8) hR (sA24 hR hw) (by decide) (lA24 hR hw) rfl rfl r3 (fun h5 h6 => ?_)
    exact rf_ok (by exact ⟨⟨rfl, h6⟩, hR⟩)
  · refine c_I (s := 9) hR (sK6 hR hw) rfl rfl (fun h8 => ?_)
    refine rf_ck (fun h9 => ?_)
    refine p_I (s := 9) hR (sK6 hR hw) rfl ⟨rfl, rfl, by decide⟩ (e_add rfl (e_n 1)) h9 (fun g13 n11 hR12 => ?_)
    refine c_S hR12 hw (sK6 hR12 hw) (by decide) (show srf 6 0 10 = some 1578 from rfl) ?_
    refine c_S hR12 hw (sK6 hR12 hw) (by decide) (show srf 6 0 15 = some 1586 from rfl) ?_
    refine rf_ty (t := 101) dS1578.1 hR12 (by decide) (fun h17 h18 => ?_)
    refine v_c h17 ?_
    refine rf_bind (f_Address_copy rfl dS1578 rfl dS1586 hR12) (fun g21 n19 hR20 => ?_)
    refine v_c (sK6 hR20 hw).1 ?_
    refine rf_bind (f_Net_listCookies hw hR20) (fun g25 n23 hR24 => ?_)
    refine c_S hR24 hw (sK6 hR24 hw) (by decide) (show srf 6 0 0 = some 1570 from rfl) ?_
    refine rf_bind (fL_Net_ask_90 hw rfl dS1570 (e_n 0) (show inR 0 by decide) hR24) (fun a28 z27 h => ?_)
    obtain ⟨rfl, r29⟩ := (show RD a28 z27 from h)
    refine rf_ty (t := 102) r29.1 hR24 (by decide) (fun h31 h32 => ?_)
    refine c_L (s := 2) hR24 (ce_dy hR24 r29 h32 (by decide)) rfl rfl (fun h30 => ?_)
    refine rf_leq rfl (f_n 0) h30 (show inL 0 by decide) ?_ ?_
    · exact fk_Net_ask_169 hw rfl r29 hR24
    · refine c_S hR24 hw (sK6 hR24 hw) (by decide) (show srf 6 0 5 = some 1576 from rfl) ?_
      refine c_I (s := 6) hR24 (sK6 hR24 hw) rfl rfl (fun h35 => ?_)
      refine c_S hR24 hw (sK6 hR24 hw) (by decide) (show srf 6 0 15 = some 1586 from rfl) ?_
      refine rf_ty (t := 101) dS1586.1 hR24 (by decide) (fun h38 h39 => ?_)
      refine c_L (s := 1) hR24 (ce_dy hR24 dS1586 h39 (by decide)) rfl rfl (fun h37 => ?_)
      refine rf_ty (t := 102) r29.1 hR24 (by decide) (fun h41 h42 => ?_)
      refine c_L (s := 2) hR24 (ce_dy hR24 r29 h42 (by decide)) rfl rfl (fun h40 => ?_)
      refine rf_ty (t := 102) r29.1 hR24 (by decide) (fun h44 h45 => ?_)
      refine c_L (s := 3) hR24 (ce_dy hR24 r29 h45 (by decide)) rfl rfl (fun h43 => ?_)
      refine rf_c2 (f_Net_putRow hw rfl (by decide) rfl h35 rfl h37 rfl h40 rfl h43 hR24) (fun a49 g52 b h => ?_)
      obtain ⟨z47, n50⟩ := b
      refine rf_v2 ?_
      obtain ⟨rfl, r48⟩ := (show RI a49 z47 from h.1)
      have hR51 : RC w y g52 n50 m := h.2
      refine p_I (s := 6) hR51 (sK6 hR51 hw) rfl ⟨rfl, rfl, by decide⟩ rfl r48 (fun g56 n54 hR55 => ?_)
      exact fk_Net_ask_169 hw rfl r29 hR55
noncomputable def nb_Net_fetch_17 (v2 : Int) (n : NS) : Option ((Int × NS) ⊕ ((Int × NS) ⊕ (NS))) :=
  if 6 < v2 then
    some (.inr (.inr n))
  else
    (N_Net_ask n).bind <| u2 fun z3 n6 =>
    ty n6 z3 102 <|
    if (n6 99 z3 4) < 0 then
      some (.inr (.inl (z3, n6)))
    else
      if v2 < 6 then
        ty n6 z3 102 <|
        if (n6 99 z3 4) < 0 then
          none
        else
          ty n6 1586 101 <|
          (N_Address_copy 1586 (n6 99 z3 4) n6).bind fun n23 =>
          ty n23 1586 101 <|
          (N_Address_dropMark 1586 n23).bind fun n30 =>
          ck (v2 + 1) <|
          some (.inl (v2 + 1, n30))
      else
        ck (v2 + 1) <|
        some (.inl (v2 + 1, n6))
theorem fb_Net_fetch_17 {w y : Prop} {g : g_S} {n : NS} {m : YS} (hw : w) {xv2 : Int32} {v2 : Int} (ev2 : xv2 = Int32.ofInt v2) (rv2 : inR v2) (hR : RC w y g n m) : Rf (RS (fun a b => RI a.1 b.1 ∧ RC w y a.2 b.2 m) (RS (fun a b => RD a.1 b.1 ∧ RC w y a.2 b.2 m) (fun a b => RC w y a b m))) (b_Net_fetch_17 1569 xv2 g) (nb_Net_fetch_17 v2 n) := by
  subst ev2
  unfold b_Net_fetch_17 nb_Net_fetch_17
  refine rf_lt (e_n 6) rfl (show inR 6 by decide) rv2 ?_ ?_
  · exact rf_ok (by exact hR)
  · refine v_c2 (sK6 hR hw).1 ?_
    refine rf_c2 (f_Net_ask hw hR) (fun a5 g8 b h => ?_)
    obtain ⟨z3, n6⟩ := b
    refine rf_v2 ?_
    obtain ⟨rfl, r4⟩ := (show RD a5 z3 from h.1)
    have hR7 : RC w y g8 n6 m := h.2
    refine rf_ty (t := 102) r4.1 hR7 (by decide) (fun h10 h11 => ?_)
    refine c_O (s := 4) hR7 (ce_dy hR7 r4 h11 (by decide)) rfl rfl rfl (fun h9 => ?_)
    refine rf_ro (fun h12 => ?_) (fun h12 => ?_)
    · refine rf_lt rfl (e_n 6) rv2 (show inR 6 by decide) ?_ ?_
      · refine c_S hR7 hw (sK6 hR7 hw) (by decide) (show srf 6 0 15 = some 1586 from rfl) ?_
        refine rf_ty (t := 102) r4.1 hR7 (by decide) (fun h17 h18 => ?_)
        refine c_O (s := 4) hR7 (ce_dy hR7 r4 h18 (by decide)) rfl rfl rfl (fun h16 => ?_)
        refine rf_ro (fun h19 => ?_) (fun h19 => ?_)
        · refine rf_ty (t := 101) dS1586.1 hR7 (by decide) (fun h21 h22 => ?_)
          refine v_c h21 ?_
          refine rf_bind (f_Address_copy rfl dS1586 rfl (And.intro h19 (h16 h19)) hR7) (fun g25 n23 hR24 => ?_)
          refine c_S hR24 hw (sK6 hR24 hw) (by decide) (show srf 6 0 15 = some 1586 from rfl) ?_
          refine rf_ty (t := 101) dS1586.1 hR24 (by decide) (fun h28 h29 => ?_)
          refine v_c h28 ?_
          refine rf_bind (f_Address_dropMark rfl dS1586 hR24) (fun g32 n30 hR31 => ?_)
          refine rf_ck (fun h33 => ?_)
          exact rf_ok (by exact ⟨⟨(e_add rfl (e_n 1)), h33⟩, hR31⟩)
        · exact rf_no
      · refine rf_ck (fun h35 => ?_)
        exact rf_ok (by exact ⟨⟨(e_add rfl (e_n 1)), h35⟩, hR7⟩)
    · exact rf_ok (by exact ⟨⟨rfl, r4⟩, hR7⟩)
noncomputable def NL_Net_fetch_17 (v2 : Int) (n : NS) : Option ((Int × NS) ⊕ (NS)) :=
  it (fun s : Int × NS => nb_Net_fetch_17 s.1 s.2) (v2, n)
theorem fL_Net_fetch_17 {w y : Prop} {g : g_S} {n : NS} {m : YS} (hw : w) {xv2 : Int32} {v2 : Int} (ev2 : xv2 = Int32.ofInt v2) (rv2 : inR v2) (hR : RC w y g n m) : Rf (RS (fun a b => RD a.1 b.1 ∧ RC w y a.2 b.2 m) (fun a b => RC w y a b m)) (L_Net_fetch_17 1569 xv2 g) (NL_Net_fetch_17 v2 n) := by
  subst ev2
  unfold L_Net_fetch_17 NL_Net_fetch_17
  refine rf_it (I := (fun a b => RI a.1 b.1 ∧ RC w y a.2 b.2 m)) (fun s t h => ?_) ⟨⟨rfl, rv2⟩, hR⟩
  exact fb_Net_fetch_17 hw h.1.1 h.1.2 h.2
theorem NL_Net_fetch_17_eq (v2 : Int) (n : NS) : NL_Net_fetch_17 v2 n = itc (nb_Net_fetch_17 v2 n) (fun s => NL_Net_fetch_17 s.1 s.2) := it_eq2 (fun s : Int × NS => nb_Net_fetch_17 s.1 s.2) (v2, n)
noncomputable def N_Net_fetch (v1 : Int) (n : NS) : Option (Int × NS) :=
  ty n 1586 101 <|
  (N_Address_copy 1586 v1 n).bind fun n5 =>
  ty n5 1586 101 <|
  (N_Address_dropMark 1586 n5).bind fun n12 =>
  (NL_Net_fetch_17 1 n12).bind <|
    us (u2 fun z15 n16 =>
    some (z15, n16))
    (fun n22 =>
    some (1570, n22))
theorem f_Net_fetch {w y : Prop} {g : g_S} {n : NS} {m : YS} (hw : w) {xv1 : Nat} {v1 : Int} (ev1 : xv1 = Int.toNat v1) (rv1 : 0 ≤ v1 ∧ lc (Int.toNat v1) = (99, v1)) (hR : RC w y g n m) : Rf (fun a b => RD a.1 b.1 ∧ RC w y a.2 b.2 m) (M_Net_fetch 1569 xv1 g) (N_Net_fetch v1 n) := by
  subst ev1
  unfold M_Net_fetch N_Net_fetch
  refine c_S hR hw (sK6 hR hw) (by decide) (show srf 6 0 15 = some 1586 from rfl) ?_
  refine rf_ty (t := 101) dS1586.1 hR (by decide) (fun h3 h4 => ?_)
  refine v_c h3 ?_
  refine rf_bind (f_Address_copy rfl dS1586 rfl rv1 hR) (fun g7 n5 hR6 => ?_)
  refine c_S hR6 hw (sK6 hR6 hw) (by decide) (show srf 6 0 15 = some 1586 from rfl) ?_
  refine rf_ty (t := 101) dS1586.1 hR6 (by decide) (fun h10 h11 => ?_)
  refine v_c h10 ?_
  refine rf_bind (f_Address_dropMark rfl dS1586 hR6) (fun g14 n12 hR13 => ?_)
  refine rf_bind (fL_Net_fetch_17 hw (e_n 1) (show inR 1 by decide) hR13) (fun a b h => rf_us h (fun a b h => ?_) (fun a23 n22 h => ?_))
  · obtain ⟨a17, a18⟩ := a
    obtain ⟨z15, n16⟩ := b
    refine rf_u2 ?_
    obtain ⟨rfl, r20⟩ := (show RD a17 z15 from h.1)
    have hR19 : RC w y a18 n16 m := h.2
    exact rf_ok (by exact ⟨⟨rfl, r20⟩, hR19⟩)
  · have hR24 : RC w y a23 n22 m := h
    refine c_S hR24 hw (sK6 hR24 hw) (by decide) (show srf 6 0 0 = some 1570 from rfl) ?_
    exact rf_ok (by exact ⟨⟨rfl, dS1570⟩, hR24⟩)
noncomputable def N_Address_takeMark (v0 : Int) (v1 : Int) (n : NS) : Option (NS) :=
  ty n v1 101 <|
  ty n v1 101 <|
  ck ((n 99 v1 5) - (n 99 v1 4)) <|
  ty n v1 101 <|
  nn (n 99 v1 0) <|
  ty n v1 101 <|
  ty n v0 101 <|
  nn (n 99 v0 0) <|
  ty n v0 101 <|
  cpg n 1 (n 99 v1 0) (n 99 v1 4) (n 99 v0 0) (n 99 v0 4) ((n 99 v1 5) - (n 99 v1 4)) <|
  st (nwA n 99 (n 99 v0 0) (cpf (n 99 (n 99 v1 0)) (n 99 (n 99 v0 0)) (n 99 v1 4) (n 99 v0 4) ((n 99 v1 5) - (n 99 v1 4)))) fun n21 =>
  ty n21 v0 101 <|
  ck ((n21 99 v0 4) + ((n 99 v1 5) - (n 99 v1 4))) <|
  ty n21 v0 101 <|
  st (nw n21 99 v0 5 ((n21 99 v0 4) + ((n 99 v1 5) - (n 99 v1 4)))) fun n31 =>
  some n31
theorem f_Address_takeMark {w y : Prop} {g : g_S} {n : NS} {m : YS} {xv0 : Nat} {v0 : Int} (ev0 : xv0 = Int.toNat v0) (rv0 : 0 ≤ v0 ∧ lc (Int.toNat v0) = (99, v0)) {xv1 : Nat} {v1 : Int} (ev1 : xv1 = Int.toNat v1) (rv1 : 0 ≤ v1 ∧ lc (Int.toNat v1) = (99, v1)) (hR : RC w y g n m) : Rf (fun a b => RC w y a b m) (M_Address_takeMark xv0 xv1 g) (N_Address_takeMark v0 v1 n) := by
  subst ev0
  subst ev1
  unfold M_Address_takeMark N_Address_takeMark
  refine rf_ty (t := 101) rv1.1 hR (by decide) (fun h2 h3 => ?_)
  refine c_I (s := 5) hR (ce_dy hR rv1 h3 (by decide)) rfl rfl (fun h1 => ?_)
  refine rf_ty (t := 101) rv1.1 hR (by decide) (fun h5 h6 => ?_)
  refine c_I (s := 4) hR (ce_dy hR rv1 h6 (by decide)) rfl rfl (fun h4 => ?_)
  refine rf_ck (fun h7 => ?_)
  refine rf_ty (t := 101) rv1.1 hR (by decide) (fun h9 h10 => ?_)
  refine c_D (s := 0) hR (ce_dy hR rv1 h10 (by decide)) rfl rfl rfl (fun h8 => ?_)
  refine rf_ty (t := 101) rv1.1 hR (by decide) (fun h12 h13 => ?_)
  refine c_I (s := 4) hR (ce_dy hR rv1 h13 (by decide)) rfl rfl (fun h11 => ?_)
  refine rf_ty (t := 101) rv0.1 hR (by decide) (fun h15 h16 => ?_)
  refine c_D (s := 0) hR (ce_dy hR rv0 h16 (by decide)) rfl rfl rfl (fun h14 => ?_)
  refine rf_ty (t := 101) rv0.1 hR (by decide) (fun h18 h19 => ?_)
  refine c_I (s := 4) hR (ce_dy hR rv0 h19 (by decide)) rfl rfl (fun h17 => ?_)
  refine n_cp hR (by decide) h8 h14 rfl h11 rfl h17 (e_sub rfl rfl) h7 (fun g23 n21 hR22 => ?_)
  refine rf_ty (t := 101) rv0.1 hR22 (by decide) (fun h25 h26 => ?_)
  refine c_I (s := 4) hR22 (ce_dy hR22 rv0 h26 (by decide)) rfl rfl (fun h24 => ?_)
  refine rf_ck (fun h27 => ?_)
  refine rf_ty (t := 101) rv0.1 hR22 (by decide) (fun h29 h30 => ?_)
  refine p_I (s := 5) hR22 (ce_dy hR22 rv0 h30 (by decide)) rfl ⟨rfl, rfl, by decide⟩ (e_add rfl (e_sub rfl rfl)) h27 (fun g33 n31 hR32 => ?_)
  exact rf_ok (by exact hR32)
noncomputable def nk_Net_arrive_43 (v1 : Int) (n : NS) : Option (Int × NS) :=
  st (nw n 6 0 16 0) fun n2 =>
  some (v1, n2)
theorem fk_Net_arrive_43 {w y : Prop} {g : g_S} {n : NS} {m : YS} (hw : w) {xv1 : Nat} {v1 : Int} (ev1 : xv1 = Int.toNat v1) (rv1 : 0 ≤ v1 ∧ lc (Int.toNat v1) = (99, v1)) (hR : RC w y g n m) : Rf (fun a b => RD a.1 b.1 ∧ RC w y a.2 b.2 m) (k_Net_arrive_43 1569 xv1 g) (nk_Net_arrive_43 v1 n) := by
  subst ev1
  unfold k_Net_arrive_43 nk_Net_arrive_43
  refine p_I (s := 16) hR (sK6 hR hw) rfl ⟨rfl, rfl, by decide⟩ (e_n 0) (show inR 0 by decide) (fun g4 n2 hR3 => ?_)
  exact rf_ok (by exact ⟨⟨rfl, rv1⟩, hR3⟩)
noncomputable def N_Net_arrive (n : NS) : Option (Int × NS) :=
  (N_Net_fetch 1584 n).bind <| u2 fun z3 n6 =>
  ty n6 1582 101 <|
  (N_Address_copy 1582 1586 n6).bind fun n14 =>
  ty n14 1582 101 <|
  (N_Address_takeMark 1582 1584 n14).bind fun n22 =>
  if (n22 6 0 16) = 1 then
    (N_Net_pushHistory n22).bind fun n28 =>
    nk_Net_arrive_43 z3 n28
  else
    nk_Net_arrive_43 z3 n22
theorem f_Net_arrive {w y : Prop} {g : g_S} {n : NS} {m : YS} (hw : w) (hR : RC w y g n m) : Rf (fun a b => RD a.1 b.1 ∧ RC w y a.2 b.2 m) (M_Net_arrive 1569 g) (N_Net_arrive n) := by
  unfold M_Net_arrive N_Net_arrive
  refine c_S hR hw (sK6 hR hw) (by decide) (show srf 6 0 14 = some 1584 from rfl) ?_
  refine v_c2 (sK6 hR hw).1 ?_
  refine rf_c2 (f_Net_fetch hw rfl dS1584 hR) (fun a5 g8 b h => ?_)
  obtain ⟨z3, n6⟩ := b
  refine rf_v2 ?_
  obtain ⟨rfl, r4⟩ := (show RD a5 z3 from h.1)
  have hR7 : RC w y g8 n6 m := h.2
  refine c_S hR7 hw (sK6 hR7 hw) (by decide) (show srf 6 0 13 = some 1582 from rfl) ?_
  refine c_S hR7 hw (sK6 hR7 hw) (by decide) (show srf 6 0 15 = some 1586 from rfl) ?_
  refine rf_ty (t := 101) dS1582.1 hR7 (by decide) (fun h12 h13 => ?_)
  refine v_c h12 ?_
  refine rf_bind (f_Address_copy rfl dS1582 rfl dS1586 hR7) (fun g16 n14 hR15 => ?_)
  refine c_S hR15 hw (sK6 hR15 hw) (by decide) (show srf 6 0 13 = some 1582 from rfl) ?_
  refine c_S hR15 hw (sK6 hR15 hw) (by decide) (show srf 6 0 14 = some 1584 from rfl) ?_
  refine rf_ty (t := 101) dS1582.1 hR15 (by decide) (fun h20 h21 => ?_)
  refine v_c h20 ?_
  refine rf_bind (f_Address_takeMark rfl dS1582 rfl dS1584 hR15) (fun g24 n22 hR23 => ?_)
  refine c_I (s := 16) hR23 (sK6 hR23 hw) rfl rfl (fun h25 => ?_)
  refine rf_eq rfl (e_n 1) h25 (show inR 1 by decide) ?_ ?_
  · refine v_c (sK6 hR23 hw).1 ?_
    refine rf_bind (f_Net_pushHistory hw hR23) (fun g30 n28 hR29 => ?_)
    exact fk_Net_arrive_43 hw rfl r4 hR29
  · exact fk_Net_arrive_43 hw rfl r4 hR23
noncomputable def nb_Reader_isBlankRun_2 (v2 : Int) (v3 : Int) (n : NS) : Option ((Int) ⊕ ((Unit) ⊕ (Unit))) :=
  if v3 < v2 then
    nn (n 8 0 8) <|
    dx n (n 8 0 8) 1 v3 <|
    (N_Bytes_isBlank (n 99 (n 8 0 8) v3) n).bind fun z6 =>
    if z6 = 0 then
      some (.inr (.inl ()))
    else
      ck (v3 + 1) <|
      some (.inl (v3 + 1))
  else
    some (.inr (.inr ()))
theorem fb_Reader_isBlankRun_2 {w y : Prop} {g : g_S} {n : NS} {m : YS} (hw : w) {xv2 : Int32} {v2 : Int} (ev2 : xv2 = Int32.ofInt v2) (rv2 : inR v2) {xv3 : Int32} {v3 : Int} (ev3 : xv3 = Int32.ofInt v3) (rv3 : inR v3) (hR : RC w y g n m) : Rf (RS (fun a b => RI a b) (RS (fun _ _ => True) (fun _ _ => True))) (b_Reader_isBlankRun_2 1631 xv2 xv3 g) (nb_Reader_isBlankRun_2 v2 v3 n) := by
  subst ev2
  subst ev3
  unfold b_Reader_isBlankRun_2 nb_Reader_isBlankRun_2
  refine rf_lt rfl rfl rv3 rv2 ?_ ?_
  · refine c_D (s := 8) hR (sK8 hR hw) rfl rfl rfl (fun h2 => ?_)
    refine d_B hR h2 rfl rv3 (fun h3 h4 => ?_)
    refine rf_bind (f_Bytes_isBlank rfl (inB.r h4) hR) (fun a8 z6 h => ?_)
    obtain ⟨rfl, r7⟩ := h
    refine rf_eq rfl (e_n 0) (inZ.r r7) (show inR 0 by decide) ?_ ?_
    · exact rf_ok (by exact trivial)
    · refine rf_ck (fun h10 => ?_)
      exact rf_ok (by exact ⟨(e_add rfl (e_n 1)), h10⟩)
  · exact rf_ok (by exact trivial)
noncomputable def NL_Reader_isBlankRun_2 (v2 : Int) (v3 : Int) (n : NS) : Option ((Unit) ⊕ (Unit)) :=
  it (fun s : Int => nb_Reader_isBlankRun_2 v2 s n) (v3)
theorem fL_Reader_isBlankRun_2 {w y : Prop} {g : g_S} {n : NS} {m : YS} (hw : w) {xv2 : Int32} {v2 : Int} (ev2 : xv2 = Int32.ofInt v2) (rv2 : inR v2) {xv3 : Int32} {v3 : Int} (ev3 : xv3 = Int32.ofInt v3) (rv3 : inR v3) (hR : RC w y g n m) : Rf (RS (fun _ _ => True) (fun _ _ => True)) (L_Reader_isBlankRun_2 1631 xv2 xv3 g) (NL_Reader_isBlankRun_2 v2 v3 n) := by
  subst ev2
  subst ev3
  unfold L_Reader_isBlankRun_2 NL_Reader_isBlankRun_2
  refine rf_it (I := (fun a b => RI a b)) (fun s t h => ?_) ⟨rfl, rv3⟩
  exact fb_Reader_isBlankRun_2 hw rfl rv2 h.1 h.2 hR
theorem NL_Reader_isBlankRun_2_eq (v2 : Int) (v3 : Int) (n : NS) : NL_Reader_isBlankRun_2 v2 v3 n = itc (nb_Reader_isBlankRun_2 v2 v3 n) (fun s => NL_Reader_isBlankRun_2 v2 s n) := it_eq2 (fun s : Int => nb_Reader_isBlankRun_2 v2 s n) (v3)
noncomputable def N_Reader_isBlankRun (v1 : Int) (v2 : Int) (n : NS) : Option (Int) :=
  (NL_Reader_isBlankRun_2 v2 v1 n).bind <|
    us (fun _ =>
    some 0)
    (fun _ =>
    some 1)
theorem f_Reader_isBlankRun {w y : Prop} {g : g_S} {n : NS} {m : YS} (hw : w) {xv1 : Int32} {v1 : Int} (ev1 : xv1 = Int32.ofInt v1) (rv1 : inR v1) {xv2 : Int32} {v2 : Int} (ev2 : xv2 = Int32.ofInt v2) (rv2 : inR v2) (hR : RC w y g n m) : Rf (fun a b => RZ a b) (M_Reader_isBlankRun 1631 xv1 xv2 g) (N_Reader_isBlankRun v1 v2 n) := by
  subst ev1
  subst ev2
  unfold M_Reader_isBlankRun N_Reader_isBlankRun
  refine rf_bind (fL_Reader_isBlankRun_2 hw rfl rv2 rfl rv1 hR) (fun a b h => rf_us h (fun a b h => ?_) (fun a b h => ?_))
  · exact rf_ok (by exact ⟨(e_n 0), (.inl rfl)⟩)
  · exact rf_ok (by exact ⟨(e_n 1), (.inr rfl)⟩)
noncomputable def N_Tree_hasRoom (v1 : Int) (n : NS) : Option (Int) :=
  if (n 10 0 5) < 120 then
    ix v1 120 <|
    if (n 7 v1 7) < 20 then
      some 1
    else
      some 0
  else
    some 0
theorem f_Tree_hasRoom {w y : Prop} {g : g_S} {n : NS} {m : YS} (hw : w) {xv1 : Int32} {v1 : Int} (ev1 : xv1 = Int32.ofInt v1) (rv1 : inR v1) (hR : RC w y g n m) : Rf (fun a b => RZ a b) (M_Tree_hasRoom 5 xv1 g) (N_Tree_hasRoom v1 n) := by
  subst ev1
  unfold M_Tree_hasRoom N_Tree_hasRoom
  refine c_I (s := 5) hR (sK10 hR hw) rfl rfl (fun h1 => ?_)
  refine rf_lt rfl (e_n 120) h1 (show inR 120 by decide) ?_ ?_
  · refine c_S hR hw (sK10 hR hw) (by decide) (show srf 10 0 0 = some 6 from rfl) ?_
    refine s_S (p := aNd (_)) (L := 120) hR hw (sA20 hR hw) (by decide) (lA20 hR hw) rfl rfl rv1 (fun z1 z2 => srf20 z1 z2) (fun h4 => ?_)
    refine c_I (s := 7) hR (ce_nd hR hw (And.intro h4.1 (Int.le_of_lt h4.2))) rfl rfl (fun h6 => ?_)
    refine rf_lt rfl (e_n 20) h6 (show inR 20 by decide) ?_ ?_
    · exact rf_ok (by exact ⟨(e_n 1), (.inr rfl)⟩)
    · exact rf_ok (by exact ⟨(e_n 0), (.inl rfl)⟩)
  · exact rf_ok (by exact ⟨(e_n 0), (.inl rfl)⟩)
noncomputable def nk_Reader_tell_29 (n : NS) : Option (NS) :=
  ck ((n 8 0 3) + 1) <|
  st (nw n 8 0 3 ((n 8 0 3) + 1)) fun n4 =>
  some n4
theorem fk_Reader_tell_29 {w y : Prop} {g : g_S} {n : NS} {m : YS} (hw : w) (hR : RC w y g n m) : Rf (fun a b => RC w y a b m) (k_Reader_tell_29 1631 g) (nk_Reader_tell_29 n) := by
  unfold k_Reader_tell_29 nk_Reader_tell_29
  refine c_I (s := 3) hR (sK8 hR hw) rfl rfl (fun h1 => ?_)
  refine rf_ck (fun h2 => ?_)
  refine p_I (s := 3) hR (sK8 hR hw) rfl ⟨rfl, rfl, by decide⟩ (e_add rfl (e_n 1)) h2 (fun g6 n4 hR5 => ?_)
  exact rf_ok (by exact hR5)
noncomputable def N_Reader_tell (v1 : Int) (v2 : Int) (n : NS) : Option (NS) :=
  if (n 8 0 3) < 40 then
    ix (n 8 0 3) 40 <|
    st (nw n 28 0 (n 8 0 3) v1) fun n6 =>
    ix (n6 8 0 3) 40 <|
    st (nw n6 29 0 (n6 8 0 3) v2) fun n12 =>
    nk_Reader_tell_29 n12
  else
    nk_Reader_tell_29 n
theorem f_Reader_tell {w y : Prop} {g : g_S} {n : NS} {m : YS} (hw : w) {xv1 : Int32} {v1 : Int} (ev1 : xv1 = Int32.ofInt v1) (rv1 : inR v1) {xv2 : Int32} {v2 : Int} (ev2 : xv2 = Int32.ofInt v2) (rv2 : inR v2) (hR : RC w y g n m) : Rf (fun a b => RC w y a b m) (M_Reader_tell 1631 xv1 xv2 g) (N_Reader_tell v1 v2 n) := by
  subst ev1
  subst ev2
  unfold M_Reader_tell N_Reader_tell
  refine c_I (s := 3) hR (sK8 hR hw) rfl rfl (fun h1 => ?_)
  refine rf_lt rfl (e_n 40) h1 (show inR 40 by decide) ?_ ?_
  · refine c_S hR hw (sK8 hR hw) (by decide) (show srf 8 0 1 = some 1632 from rfl) ?_
    refine c_I (s := 3) hR (sK8 hR hw) rfl rfl (fun h4 => ?_)
    refine t_I (L := 40) hR (sA28 hR hw) (lA28 hR hw) rfl rfl h4 rfl rv1 (fun g8 n6 hR7 => ?_)
    refine c_S hR7 hw (sK8 hR7 hw) (by decide) (show srf 8 0 2 = some 1633 from rfl) ?_
    refine c_I (s := 3) hR7 (sK8 hR7 hw) rfl rfl (fun h10 => ?_)
    refine t_I (L := 40) hR7 (sA29 hR7 hw) (lA29 hR7 hw) rfl rfl h10 rfl rv2 (fun g14 n12 hR13 => ?_)
    exact fk_Reader_tell_29 hw hR13
  · exact fk_Reader_tell_29 hw hR
noncomputable def N_Reader_entityLength (v1 : Int) (v2 : Int) (n : NS) : Option (Int) :=
  nn (n 8 0 8) <|
  (N_Bytes_stands 1000011 (n 8 0 8) v1 v2 n).bind fun z4 =>
  if z4 = 0 then
    nn (n 8 0 8) <|
    (N_Bytes_stands 1000012 (n 8 0 8) v1 v2 n).bind fun z11 =>
    if z11 = 0 then
      nn (n 8 0 8) <|
      (N_Bytes_stands 1000013 (n 8 0 8) v1 v2 n).bind fun z18 =>
      if z18 = 0 then
        nn (n 8 0 8) <|
        (N_Bytes_stands 1000014 (n 8 0 8) v1 v2 n).bind fun z25 =>
        if z25 = 0 then
          some 1
        else
          some 6
      else
        some 5
    else
      some 4
  else
    some 4
theorem f_Reader_entityLength {w y : Prop} {g : g_S} {n : NS} {m : YS} (hw : w) {xv1 : Int32} {v1 : Int} (ev1 : xv1 = Int32.ofInt v1) (rv1 : inR v1) {xv2 : Int32} {v2 : Int} (ev2 : xv2 = Int32.ofInt v2) (rv2 : inR v2) (hR : RC w y g n m) : Rf (fun a b => RI a b) (M_Reader_entityLength 1631 xv1 xv2 g) (N_Reader_entityLength v1 v2 n) := by
  subst ev1
  subst ev2
  unfold M_Reader_entityLength N_Reader_entityLength
  refine c_D (s := 8) hR (sK8 hR hw) rfl rfl rfl (fun h2 => ?_)
  refine rf_bind (f_Bytes_stands rfl h2 rfl rv1 rfl rv2 hR) (fun a6 z4 h => ?_)
  obtain ⟨rfl, r5⟩ := h
  refine rf_eq rfl (e_n 0) (inZ.r r5) (show inR 0 by decide) ?_ ?_
  · refine c_D (s := 8) hR (sK8 hR hw) rfl rfl rfl (fun h9 => ?_)
    refine rf_bind (f_Bytes_stands rfl h9 rfl rv1 rfl rv2 hR) (fun a13 z11 h => ?_)
    obtain ⟨rfl, r12⟩ := h
    refine rf_eq rfl (e_n 0) (inZ.r r12) (show inR 0 by decide) ?_ ?_
    · refine c_D (s := 8) hR (sK8 hR hw) rfl rfl rfl (fun h16 => ?_)
      refine rf_bind (f_Bytes_stands rfl h16 rfl rv1 rfl rv2 hR) (fun a20 z18 h => ?_)
      obtain ⟨rfl, r19⟩ := h
      refine rf_eq rfl (e_n 0) (inZ.r r19) (show inR 0 by decide) ?_ ?_
      · refine c_D (s := 8) hR (sK8 hR hw) rfl rfl rfl (fun h23 => ?_)
        refine rf_bind (f_Bytes_stands rfl h23 rfl rv1 rfl rv2 hR) (fun a27 z25 h => ?_)
        obtain ⟨rfl, r26⟩ := h
        refine rf_eq rfl (e_n 0) (inZ.r r26) (show inR 0 by decide) ?_ ?_
        · exact rf_ok (by exact ⟨(e_n 1), (show inR 1 by decide)⟩)
        · exact rf_ok (by exact ⟨(e_n 6), (show inR 6 by decide)⟩)
      · exact rf_ok (by exact ⟨(e_n 5), (show inR 5 by decide)⟩)
    · exact rf_ok (by exact ⟨(e_n 4), (show inR 4 by decide)⟩)
  · exact rf_ok (by exact ⟨(e_n 4), (show inR 4 by decide)⟩)
noncomputable def N_Reader_entityByte (v1 : Int) (n : NS) : Option (Int) :=
  nn (n 8 0 8) <|
  ck (v1 + 1) <|
  dx n (n 8 0 8) 1 (v1 + 1) <|
  if (n 99 (n 8 0 8) (v1 + 1)) = 97 then
    some 38
  else if (n 99 (n 8 0 8) (v1 + 1)) = 103 then
    some 62
  else if (n 99 (n 8 0 8) (v1 + 1)) = 108 then
    some 60
  else
    some 34
theorem f_Reader_entityByte {w y : Prop} {g : g_S} {n : NS} {m : YS} (hw : w) {xv1 : Int32} {v1 : Int} (ev1 : xv1 = Int32.ofInt v1) (rv1 : inR v1) (hR : RC w y g n m) : Rf (fun a b => RI a b) (M_Reader_entityByte 1631 xv1 g) (N_Reader_entityByte v1 n) := by
  subst ev1
  unfold M_Reader_entityByte N_Reader_entityByte
  refine c_D (s := 8) hR (sK8 hR hw) rfl rfl rfl (fun h1 => ?_)
  refine rf_ck (fun h2 => ?_)
  refine d_B hR h1 (e_add rfl (e_n 1)) h2 (fun h3 h4 => ?_)
  refine rf_eq rfl (e_n 97) (inB.r h4) (show inR 97 by decide) ?_ ?_
  · exact rf_ok (by exact ⟨(e_n 38), (show inR 38 by decide)⟩)
  refine rf_eq rfl (e_n 103) (inB.r h4) (show inR 103 by decide) ?_ ?_
  · exact rf_ok (by exact ⟨(e_n 62), (show inR 62 by decide)⟩)
  refine rf_eq rfl (e_n 108) (inB.r h4) (show inR 108 by decide) ?_ ?_
  · exact rf_ok (by exact ⟨(e_n 60), (show inR 60 by decide)⟩)
  exact rf_ok (by exact ⟨(e_n 34), (show inR 34 by decide)⟩)
noncomputable def nk_Reader_decode_75 (v2 : Int) (v3 : Int) (v4 : Int) (v5 : Int) (v6 : Int) (w0 : Int) (w1 : Int) (n : NS) : Option ((Int × NS) ⊕ (Int × NS)) :=
  (N_Bytes_add w1 w0 n).bind fun n2 =>
  ck (v5 + v6) <|
  some (.inl (v5 + v6, n2))
theorem fk_Reader_decode_75 {w y : Prop} {g : g_S} {n : NS} {m : YS} (hw : w) {xv2 : Int32} {v2 : Int} (ev2 : xv2 = Int32.ofInt v2) (rv2 : inR v2) {xv3 : Int32} {v3 : Int} (ev3 : xv3 = Int32.ofInt v3) (rv3 : inR v3) {xv4 : Nat} {v4 : Int} (ev4 : xv4 = aBy v4) (rv4 : 0 ≤ v4 ∧ v4 ≤ 631) {xv5 : Int32} {v5 : Int} (ev5 : xv5 = Int32.ofInt v5) (rv5 : inR v5) {xv6 : Int32} {v6 : Int} (ev6 : xv6 = Int32.ofInt v6) (rv6 : inR v6) {xw0 : Int32} {w0 : Int} (ew0 : xw0 = Int32.ofInt w0) (rw0 : inR w0) {xw1 : Nat} {w1 : Int} (ew1 : xw1 = aBy w1) (rw1 : 0 ≤ w1 ∧ w1 ≤ 631) (hR : RC w y g n m) : Rf (RS (fun a b => RI a.1 b.1 ∧ RC w y a.2 b.2 m) (fun a b => RI a.1 b.1 ∧ RC w y a.2 b.2 m)) (k_Reader_decode_75 1631 xv2 xv3 xv4 xv5 xv6 xw0 xw1 g) (nk_Reader_decode_75 v2 v3 v4 v5 v6 w0 w1 n) := by
  subst ev2
  subst ev3
  subst ev4
  subst ev5
  subst ev6
  subst ew0
  subst ew1
  unfold k_Reader_decode_75 nk_Reader_decode_75
  refine v_c (ce_by hR hw rw1).1 ?_
  refine rf_bind (f_Bytes_add hw rfl rw1 rfl rw0 hR) (fun g4 n2 hR3 => ?_)
  refine rf_ck (fun h5 => ?_)
  exact rf_ok (by exact ⟨⟨(e_add rfl rfl), h5⟩, hR3⟩)
noncomputable def nk_Reader_decode_49 (v2 : Int) (v3 : Int) (v4 : Int) (v5 : Int) (w0 : Int) (n : NS) : Option ((Int × NS) ⊕ (Int × NS)) :=
  if w0 = 1 then
    nn (n 8 0 8) <|
    dx n (n 8 0 8) 1 v5 <|
    nk_Reader_decode_75 v2 v3 v4 v5 w0 (n 99 (n 8 0 8) v5) v4 n
  else
    (N_Reader_entityByte v5 n).bind fun z6 =>
    nk_Reader_decode_75 v2 v3 v4 v5 w0 z6 v4 n
theorem fk_Reader_decode_49 {w y : Prop} {g : g_S} {n : NS} {m : YS} (hw : w) {xv2 : Int32} {v2 : Int} (ev2 : xv2 = Int32.ofInt v2) (rv2 : inR v2) {xv3 : Int32} {v3 : Int} (ev3 : xv3 = Int32.ofInt v3) (rv3 : inR v3) {xv4 : Nat} {v4 : Int} (ev4 : xv4 = aBy v4) (rv4 : 0 ≤ v4 ∧ v4 ≤ 631) {xv5 : Int32} {v5 : Int} (ev5 : xv5 = Int32.ofInt v5) (rv5 : inR v5) {xw0 : Int32} {w0 : Int} (ew0 : xw0 = Int32.ofInt w0) (rw0 : inR w0) (hR : RC w y g n m) : Rf (RS (fun a b => RI a.1 b.1 ∧ RC w y a.2 b.2 m) (fun a b => RI a.1 b.1 ∧ RC w y a.2 b.2 m)) (k_Reader_decode_49 1631 xv2 xv3 xv4 xv5 xw0 g) (nk_Reader_decode_49 v2 v3 v4 v5 w0 n) := by
  subst ev2
  subst ev3
  subst ev4
  subst ev5
  subst ew0
  unfold k_Reader_decode_49 nk_Reader_decode_49
  refine rf_eq rfl (e_n 1) rw0 (show inR 1 by decide) ?_ ?_
  · refine c_D (s := 8) hR (sK8 hR hw) rfl rfl rfl (fun h2 => ?_)
    refine d_B hR h2 rfl rv5 (fun h3 h4 => ?_)
    exact fk_Reader_decode_75 hw rfl rv2 rfl rv3 rfl rv4 rfl rv5 rfl rw0 rfl (inB.r h4) rfl rv4 hR
  · refine v_c (sK8 hR hw).1 ?_
    refine rf_bind (f_Reader_entityByte hw rfl rv5 hR) (fun a8 z6 h => ?_)
    obtain ⟨rfl, r7⟩ := h
    exact fk_Reader_decode_75 hw rfl rv2 rfl rv3 rfl rv4 rfl rv5 rfl rw0 rfl r7 rfl rv4 hR
noncomputable def nk_Reader_decode_48 (v2 : Int) (v3 : Int) (v4 : Int) (v5 : Int) (n : NS) : Option ((Int × NS) ⊕ (Int × NS)) :=
  nk_Reader_decode_49 v2 v3 v4 v5 1 n
theorem fk_Reader_decode_48 {w y : Prop} {g : g_S} {n : NS} {m : YS} (hw : w) {xv2 : Int32} {v2 : Int} (ev2 : xv2 = Int32.ofInt v2) (rv2 : inR v2) {xv3 : Int32} {v3 : Int} (ev3 : xv3 = Int32.ofInt v3) (rv3 : inR v3) {xv4 : Nat} {v4 : Int} (ev4 : xv4 = aBy v4) (rv4 : 0 ≤ v4 ∧ v4 ≤ 631) {xv5 : Int32} {v5 : Int} (ev5 : xv5 = Int32.ofInt v5) (rv5 : inR v5) (hR : RC w y g n m) : Rf (RS (fun a b => RI a.1 b.1 ∧ RC w y a.2 b.2 m) (fun a b => RI a.1 b.1 ∧ RC w y a.2 b.2 m)) (k_Reader_decode_48 1631 xv2 xv3 xv4 xv5 g) (nk_Reader_decode_48 v2 v3 v4 v5 n) := by
  subst ev2
  subst ev3
  subst ev4
  subst ev5
  unfold k_Reader_decode_48 nk_Reader_decode_48
  exact fk_Reader_decode_49 hw rfl rv2 rfl rv3 rfl rv4 rfl rv5 (e_n 1) (show inR 1 by decide) hR
noncomputable def nb_Reader_decode_3 (v2 : Int) (v3 : Int) (v4 : Int) (v5 : Int) (n : NS) : Option ((Int × NS) ⊕ (Int × NS)) :=
  if v5 < v2 then
    if (n 4 v4 2) < (n 4 v4 0) then
      if v3 = 0 then
        nk_Reader_decode_48 v2 v3 v4 v5 n
      else
        nn (n 8 0 8) <|
        dx n (n 8 0 8) 1 v5 <|
        if (n 99 (n 8 0 8) v5) = 38 then
          (N_Reader_entityLength v5 v2 n).bind fun z11 =>
          nk_Reader_decode_49 v2 v3 v4 v5 z11 n
        else
          nk_Reader_decode_48 v2 v3 v4 v5 n
    else
      some (.inr (v5, n))
  else
    some (.inr (v5, n))
theorem fb_Reader_decode_3 {w y : Prop} {g : g_S} {n : NS} {m : YS} (hw : w) {xv2 : Int32} {v2 : Int} (ev2 : xv2 = Int32.ofInt v2) (rv2 : inR v2) {xv3 : Int32} {v3 : Int} (ev3 : xv3 = Int32.ofInt v3) (rv3 : inR v3) {xv4 : Nat} {v4 : Int} (ev4 : xv4 = aBy v4) (rv4 : 0 ≤ v4 ∧ v4 ≤ 631) {xv5 : Int32} {v5 : Int} (ev5 : xv5 = Int32.ofInt v5) (rv5 : inR v5) (hR : RC w y g n m) : Rf (RS (fun a b => RI a.1 b.1 ∧ RC w y a.2 b.2 m) (fun a b => RI a.1 b.1 ∧ RC w y a.2 b.2 m)) (b_Reader_decode_3 1631 xv2 xv3 xv4 xv5 g) (nb_Reader_decode_3 v2 v3 v4 v5 n) := by
  subst ev2
  subst ev3
  subst ev4
  subst ev5
  unfold b_Reader_decode_3 nb_Reader_decode_3
  refine rf_lt rfl rfl rv5 rv2 ?_ ?_
  · refine c_I (s := 2) hR (ce_by hR hw rv4) rfl rfl (fun h2 => ?_)
    refine c_I (s := 0) hR (ce_by hR hw rv4) rfl rfl (fun h3 => ?_)
    refine rf_lt rfl rfl h2 h3 ?_ ?_
    · refine rf_eq rfl (e_n 0) rv3 (show inR 0 by decide) ?_ ?_
      · exact fk_Reader_decode_48 hw rfl rv2 rfl rv3 rfl rv4 rfl rv5 hR
      · refine c_D (s := 8) hR (sK8 hR hw) rfl rfl rfl (fun h6 => ?_)
        refine d_B hR h6 rfl rv5 (fun h7 h8 => ?_)
        refine rf_eq rfl (e_n 38) (inB.r h8) (show inR 38 by decide) ?_ ?_
        · refine v_c (sK8 hR hw).1 ?_
          refine rf_bind (f_Reader_entityLength hw rfl rv5 rfl rv2 hR) (fun a13 z11 h => ?_)
          obtain ⟨rfl, r12⟩ := h
          exact fk_Reader_decode_49 hw rfl rv2 rfl rv3 rfl rv4 rfl rv5 rfl r12 hR
        · exact fk_Reader_decode_48 hw rfl rv2 rfl rv3 rfl rv4 rfl rv5 hR
    · exact rf_ok (by exact ⟨⟨rfl, rv5⟩, hR⟩)
  · exact rf_ok (by exact ⟨⟨rfl, rv5⟩, hR⟩)
noncomputable def NL_Reader_decode_3 (v2 : Int) (v3 : Int) (v4 : Int) (v5 : Int) (n : NS) : Option (Int × NS) :=
  it (fun s : Int × NS => nb_Reader_decode_3 v2 v3 v4 s.1 s.2) (v5, n)
theorem fL_Reader_decode_3 {w y : Prop} {g : g_S} {n : NS} {m : YS} (hw : w) {xv2 : Int32} {v2 : Int} (ev2 : xv2 = Int32.ofInt v2) (rv2 : inR v2) {xv3 : Int32} {v3 : Int} (ev3 : xv3 = Int32.ofInt v3) (rv3 : inR v3) {xv4 : Nat} {v4 : Int} (ev4 : xv4 = aBy v4) (rv4 : 0 ≤ v4 ∧ v4 ≤ 631) {xv5 : Int32} {v5 : Int} (ev5 : xv5 = Int32.ofInt v5) (rv5 : inR v5) (hR : RC w y g n m) : Rf (fun a b => RI a.1 b.1 ∧ RC w y a.2 b.2 m) (L_Reader_decode_3 1631 xv2 xv3 xv4 xv5 g) (NL_Reader_decode_3 v2 v3 v4 v5 n) := by
  subst ev2
  subst ev3
  subst ev4
  subst ev5
  unfold L_Reader_decode_3 NL_Reader_decode_3
  refine rf_it (I := (fun a b => RI a.1 b.1 ∧ RC w y a.2 b.2 m)) (fun s t h => ?_) ⟨⟨rfl, rv5⟩, hR⟩
  exact fb_Reader_decode_3 hw rfl rv2 rfl rv3 rfl rv4 h.1.1 h.1.2 h.2
theorem NL_Reader_decode_3_eq (v2 : Int) (v3 : Int) (v4 : Int) (v5 : Int) (n : NS) : NL_Reader_decode_3 v2 v3 v4 v5 n = itc (nb_Reader_decode_3 v2 v3 v4 v5 n) (fun s => NL_Reader_decode_3 v2 v3 v4 s.1 s.2) := it_eq2 (fun s : Int × NS => nb_Reader_decode_3 v2 v3 v4 s.1 s.2) (v5, n)
noncomputable def N_Reader_decode (v1 : Int) (v2 : Int) (v3 : Int) (v4 : Int) (n : NS) : Option (Int × NS) :=
  (NL_Reader_decode_3 v2 v3 v4 v1 n).bind <| u2 fun z1 n2 =>
  some (z1, n2)
theorem f_Reader_decode {w y : Prop} {g : g_S} {n : NS} {m : YS} (hw : w) {xv1 : Int32} {v1 : Int} (ev1 : xv1 = Int32.ofInt v1) (rv1 : inR v1) {xv2 : Int32} {v2 : Int} (ev2 : xv2 = Int32.ofInt v2) (rv2 : inR v2) {xv3 : Int32} {v3 : Int} (ev3 : xv3 = Int32.ofInt v3) (rv3 : inR v3) {xv4 : Nat} {v4 : Int} (ev4 : xv4 = aBy v4) (rv4 : 0 ≤ v4 ∧ v4 ≤ 631) (hR : RC w y g n m) : Rf (fun a b => RI a.1 b.1 ∧ RC w y a.2 b.2 m) (M_Reader_decode 1631 xv1 xv2 xv3 xv4 g) (N_Reader_decode v1 v2 v3 v4 n) := by
  subst ev1
  subst ev2
  subst ev3
  subst ev4
  unfold M_Reader_decode N_Reader_decode
  refine rf_bind (fL_Reader_decode_3 hw rfl rv2 rfl rv3 rfl rv4 rfl rv1 hR) (fun a b h => ?_)
  obtain ⟨a3, a4⟩ := a
  obtain ⟨z1, n2⟩ := b
  refine rf_u2 ?_
  obtain ⟨rfl, r6⟩ := (show RI a3 z1 from h.1)
  have hR5 : RC w y a4 n2 m := h.2
  exact rf_ok (by exact ⟨⟨rfl, r6⟩, hR5⟩)
noncomputable def nk_Reader_addRun_96 (v1 : Int) (v2 : Int) (v3 : Int) (v5 : Int) (n : NS) : Option (NS) :=
  ix v5 120 <|
  (N_Reader_decode v1 v2 v3 (5 * v5) n).bind <| u2 fun z7 n10 =>
  if z7 < v2 then
    if (n10 8 0 11) = v5 then
      some n10
    else
      st (nw n10 8 0 11 v5) fun n18 =>
      (N_Reader_tell 7 z7 n18).bind fun n22 =>
      some n22
  else
    some n10
theorem fk_Reader_addRun_96 {w y : Prop} {g : g_S} {n : NS} {m : YS} (hw : w) {xv1 : Int32} {v1 : Int} (ev1 : xv1 = Int32.ofInt v1) (rv1 : inR v1) {xv2 : Int32} {v2 : Int} (ev2 : xv2 = Int32.ofInt v2) (rv2 : inR v2) {xv3 : Int32} {v3 : Int} (ev3 : xv3 = Int32.ofInt v3) (rv3 : inR v3) {xv5 : Int32} {v5 : Int} (ev5 : xv5 = Int32.ofInt v5) (rv5 : inR v5) (hR : RC w y g n m) : Rf (fun a b => RC w y a b m) (k_Reader_addRun_96 1631 xv1 xv2 xv3 xv5 g) (nk_Reader_addRun_96 v1 v2 v3 v5 n) := by
  subst ev1
  subst ev2
  subst ev3
  subst ev5
  unfold k_Reader_addRun_96 nk_Reader_addRun_96
  refine c_S hR hw (sK8 hR hw) (by decide) (show srf 8 0 0 = some 5 from rfl) ?_
  refine c_S hR hw (sK10 hR hw) (by decide) (show srf 10 0 0 = some 6 from rfl) ?_
  refine s_S (p := aNd (_)) (L := 120) hR hw (sA20 hR hw) (by decide) (lA20 hR hw) rfl rfl rv5 (fun z1 z2 => srf20 z1 z2) (fun h3 => ?_)
  refine c_S (p := _) hR hw (ce_nd hR hw (And.intro h3.1 (Int.le_of_lt h3.2))) (Nat.lt_trans (nd_lt (And.intro h3.1 (Int.le_of_lt h3.2))).1 (by decide)) rfl ?_
  refine v_c2 (sK8 hR hw).1 ?_
  refine rf_c2 (f_Reader_decode hw rfl rv1 rfl rv2 rfl rv3 rfl (by5 (And.intro h3.1 (Int.le_of_lt h3.2))) hR) (fun a9 g12 b h => ?_)
  obtain ⟨z7, n10⟩ := b
  refine rf_v2 ?_
  obtain ⟨rfl, r8⟩ := (show RI a9 z7 from h.1)
  have hR11 : RC w y g12 n10 m := h.2
  refine rf_lt rfl rfl r8 rv2 ?_ ?_
  · refine c_I (s := 11) hR11 (sK8 hR11 hw) rfl rfl (fun h14 => ?_)
    refine rf_eq rfl rfl h14 rv5 ?_ ?_
    · exact rf_ok (by exact hR11)
    · refine p_I (s := 11) hR11 (sK8 hR11 hw) rfl ⟨rfl, rfl, by decide⟩ rfl rv5 (fun g20 n18 hR19 => ?_)
      refine v_c (sK8 hR19 hw).1 ?_
      refine rf_bind (f_Reader_tell hw (e_n 7) (show inR 7 by decide) rfl r8 hR19) (fun g24 n22 hR23 => ?_)
      exact rf_ok (by exact hR23)
  · exact rf_ok (by exact hR11)
noncomputable def nk_Reader_addRun_52 (v1 : Int) (v2 : Int) (v3 : Int) (v4 : Int) (n : NS) : Option (NS) :=
  (N_Reader_isBlankRun v1 v2 n).bind fun z2 =>
  if z2 = 0 then
    (N_Tree_hasRoom v4 n).bind fun z8 =>
    if z8 = 0 then
      (N_Reader_tell 6 v1 n).bind fun n13 =>
      some n13
    else
      (N_Tree_grow v4 17 0 n).bind <| u2 fun z19 n22 =>
      nk_Reader_addRun_96 v1 v2 v3 z19 n22
  else
    some n
theorem fk_Reader_addRun_52 {w y : Prop} {g : g_S} {n : NS} {m : YS} (hw : w) {xv1 : Int32} {v1 : Int} (ev1 : xv1 = Int32.ofInt v1) (rv1 : inR v1) {xv2 : Int32} {v2 : Int} (ev2 : xv2 = Int32.ofInt v2) (rv2 : inR v2) {xv3 : Int32} {v3 : Int} (ev3 : xv3 = Int32.ofInt v3) (rv3 : inR v3) {xv4 : Int32} {v4 : Int} (ev4 : xv4 = Int32.ofInt v4) (rv4 : inR v4) (hR : RC w y g n m) : Rf (fun a b => RC w y a b m) (k_Reader_addRun_52 1631 xv1 xv2 xv3 xv4 g) (nk_Reader_addRun_52 v1 v2 v3 v4 n) := by
  subst ev1
  subst ev2
  subst ev3
  subst ev4
  unfold k_Reader_addRun_52 nk_Reader_addRun_52
  refine v_c (sK8 hR hw).1 ?_
  refine rf_bind (f_Reader_isBlankRun hw rfl rv1 rfl rv2 hR) (fun a4 z2 h => ?_)
  obtain ⟨rfl, r3⟩ := h
  refine rf_eq rfl (e_n 0) (inZ.r r3) (show inR 0 by decide) ?_ ?_
  · refine c_S hR hw (sK8 hR hw) (by decide) (show srf 8 0 0 = some 5 from rfl) ?_
    refine v_c (sK10 hR hw).1 ?_
    refine rf_bind (f_Tree_hasRoom hw rfl rv4 hR) (fun a10 z8 h => ?_)
    obtain ⟨rfl, r9⟩ := h
    refine rf_eq rfl (e_n 0) (inZ.r r9) (show inR 0 by decide) ?_ ?_
    · refine v_c (sK8 hR hw).1 ?_
      refine rf_bind (f_Reader_tell hw (e_n 6) (show inR 6 by decide) rfl rv1 hR) (fun g15 n13 hR14 => ?_)
      exact rf_ok (by exact hR14)
    · refine c_S hR hw (sK8 hR hw) (by decide) (show srf 8 0 0 = some 5 from rfl) ?_
      refine v_c2 (sK10 hR hw).1 ?_
      refine rf_c2 (f_Tree_grow hw rfl rv4 (e_n 17) (show inR 17 by decide) (f_n 0) (show inL 0 by decide) hR) (fun a21 g24 b h => ?_)
      obtain ⟨z19, n22⟩ := b
      refine rf_v2 ?_
      obtain ⟨rfl, r20⟩ := (show RI a21 z19 from h.1)
      have hR23 : RC w y g24 n22 m := h.2
      exact fk_Reader_addRun_96 hw rfl rv1 rfl rv2 rfl rv3 rfl r20 hR23
  · exact rf_ok (by exact hR)
noncomputable def N_Reader_addRun (v1 : Int) (v2 : Int) (v3 : Int) (n : NS) : Option (NS) :=
  ck ((n 8 0 6) - 1) <|
  ix ((n 8 0 6) - 1) 22 <|
  ix (n 30 0 ((n 8 0 6) - 1)) 120 <|
  if (n 7 (n 30 0 ((n 8 0 6) - 1)) 4) = (-1) then
    nk_Reader_addRun_52 v1 v2 v3 (n 30 0 ((n 8 0 6) - 1)) n
  else
    ix (n 7 (n 30 0 ((n 8 0 6) - 1)) 4) 120 <|
    if (n 7 (n 7 (n 30 0 ((n 8 0 6) - 1)) 4) 0) = 17 then
      nk_Reader_addRun_96 v1 v2 v3 (n 7 (n 30 0 ((n 8 0 6) - 1)) 4) n
    else
      nk_Reader_addRun_52 v1 v2 v3 (n 30 0 ((n 8 0 6) - 1)) n
theorem f_Reader_addRun {w y : Prop} {g : g_S} {n : NS} {m : YS} (hw : w) {xv1 : Int32} {v1 : Int} (ev1 : xv1 = Int32.ofInt v1) (rv1 : inR v1) {xv2 : Int32} {v2 : Int} (ev2 : xv2 = Int32.ofInt v2) (rv2 : inR v2) {xv3 : Int32} {v3 : Int} (ev3 : xv3 = Int32.ofInt v3) (rv3 : inR v3) (hR : RC w y g n m) : Rf (fun a b => RC w y a b m) (M_Reader_addRun 1631 xv1 xv2 xv3 g) (N_Reader_addRun v1 v2 v3 n) := by
  subst ev1
  subst ev2
  subst ev3
  unfold M_Reader_addRun N_Reader_addRun
  refine c_S hR hw (sK8 hR hw) (by decide) (show srf 8 0 4 = some 1634 from rfl) ?_
  refine c_I (s := 6) hR (sK8 hR hw) rfl rfl (fun h2 => ?_)
  refine rf_ck (fun h3 => ?_)
  refine s_I (L := 22) hR (sA30 hR hw) rfl (lA30 hR hw) rfl (e_sub rfl (e_n 1)) h3 (fun h4 h5 => ?_)
  refine c_S hR hw (sK8 hR hw) (by decide) (show srf 8 0 0 = some 5 from rfl) ?_
  refine c_S hR hw (sK10 hR hw) (by decide) (show srf 10 0 0 = some 6 from rfl) ?_
  refine s_S (p := aNd (_)) (L := 120) hR hw (sA20 hR hw) (by decide) (lA20 hR hw) rfl rfl h5 (fun z1 z2 => srf20 z1 z2) (fun h8 => ?_)
  refine c_I (s := 4) hR (ce_nd hR hw (And.intro h8.1 (Int.le_of_lt h8.2))) rfl rfl (fun h10 => ?_)
  refine rf_eq rfl (e_m 1) h10 (show inR (-1) by decide) ?_ ?_
  · exact fk_Reader_addRun_52 hw rfl rv1 rfl rv2 rfl rv3 rfl h5 hR
  · refine c_S hR hw (sK8 hR hw) (by decide) (show srf 8 0 0 = some 5 from rfl) ?_
    refine c_S hR hw (sK10 hR hw) (by decide) (show srf 10 0 0 = some 6 from rfl) ?_
    refine s_S (p := aNd (_)) (L := 120) hR hw (sA20 hR hw) (by decide) (lA20 hR hw) rfl rfl h10 (fun z1 z2 => srf20 z1 z2) (fun h14 => ?_)
    refine c_I (s := 0) hR (ce_nd hR hw (And.intro h14.1 (Int.le_of_lt h14.2))) rfl rfl (fun h16 => ?_)
    refine rf_eq rfl (e_n 17) h16 (show inR 17 by decide) ?_ ?_
    · exact fk_Reader_addRun_96 hw rfl rv1 rfl rv2 rfl rv3 rfl h10 hR
    · exact fk_Reader_addRun_52 hw rfl rv1 rfl rv2 rfl rv3 rfl h5 hR
noncomputable def nb_Reader_readRaw_5 (v1 : Int) (n : NS) : Option ((Int) ⊕ (Int)) :=
  if v1 < (n 8 0 9) then
    nn (n 8 0 8) <|
    (N_Bytes_stands 1000010 (n 8 0 8) v1 (n 8 0 9) n).bind fun z7 =>
    if z7 = 0 then
      ck (v1 + 1) <|
      some (.inl (v1 + 1))
    else
      some (.inr v1)
  else
    some (.inr v1)
theorem fb_Reader_readRaw_5 {w y : Prop} {g : g_S} {n : NS} {m : YS} (hw : w) {xv1 : Int32} {v1 : Int} (ev1 : xv1 = Int32.ofInt v1) (rv1 : inR v1) (hR : RC w y g n m) : Rf (RS (fun a b => RI a b) (fun a b => RI a b)) (b_Reader_readRaw_5 1631 xv1 g) (nb_Reader_readRaw_5 v1 n) := by
  subst ev1
  unfold b_Reader_readRaw_5 nb_Reader_readRaw_5
  refine c_I (s := 9) hR (sK8 hR hw) rfl rfl (fun h1 => ?_)
  refine rf_lt rfl rfl rv1 h1 ?_ ?_
  · refine c_D (s := 8) hR (sK8 hR hw) rfl rfl rfl (fun h4 => ?_)
    refine c_I (s := 9) hR (sK8 hR hw) rfl rfl (fun h5 => ?_)
    refine rf_bind (f_Bytes_stands rfl h4 rfl rv1 rfl h5 hR) (fun a9 z7 h => ?_)
    obtain ⟨rfl, r8⟩ := h
    refine rf_eq rfl (e_n 0) (inZ.r r8) (show inR 0 by decide) ?_ ?_
    · refine rf_ck (fun h11 => ?_)
      exact rf_ok (by exact ⟨(e_add rfl (e_n 1)), h11⟩)
    · exact rf_ok (by exact ⟨rfl, rv1⟩)
  · exact rf_ok (by exact ⟨rfl, rv1⟩)
noncomputable def NL_Reader_readRaw_5 (v1 : Int) (n : NS) : Option (Int) :=
  it (fun s : Int => nb_Reader_readRaw_5 s n) (v1)
theorem fL_Reader_readRaw_5 {w y : Prop} {g : g_S} {n : NS} {m : YS} (hw : w) {xv1 : Int32} {v1 : Int} (ev1 : xv1 = Int32.ofInt v1) (rv1 : inR v1) (hR : RC w y g n m) : Rf (fun a b => RI a b) (L_Reader_readRaw_5 1631 xv1 g) (NL_Reader_readRaw_5 v1 n) := by
  subst ev1
  unfold L_Reader_readRaw_5 NL_Reader_readRaw_5
  refine rf_it (I := (fun a b => RI a b)) (fun s t h => ?_) ⟨rfl, rv1⟩
  exact fb_Reader_readRaw_5 hw h.1 h.2 hR
theorem NL_Reader_readRaw_5_eq (v1 : Int) (n : NS) : NL_Reader_readRaw_5 v1 n = itc (nb_Reader_readRaw_5 v1 n) (fun s => NL_Reader_readRaw_5 s n) := it_eq2 (fun s : Int => nb_Reader_readRaw_5 s n) (v1)
noncomputable def nk_Reader_readRaw_36 (v1 : Int) (n : NS) : Option (NS) :=
  (N_Reader_addRun (n 8 0 10) v1 0 n).bind fun n3 =>
  st (nw n3 8 0 10 v1) fun n7 =>
  some n7
theorem fk_Reader_readRaw_36 {w y : Prop} {g : g_S} {n : NS} {m : YS} (hw : w) {xv1 : Int32} {v1 : Int} (ev1 : xv1 = Int32.ofInt v1) (rv1 : inR v1) (hR : RC w y g n m) : Rf (fun a b => RC w y a b m) (k_Reader_readRaw_36 1631 xv1 g) (nk_Reader_readRaw_36 v1 n) := by
  subst ev1
  unfold k_Reader_readRaw_36 nk_Reader_readRaw_36
  refine c_I (s := 10) hR (sK8 hR hw) rfl rfl (fun h1 => ?_)
  refine v_c (sK8 hR hw).1 ?_
  refine rf_bind (f_Reader_addRun hw rfl h1 rfl rv1 (e_n 0) (show inR 0 by decide) hR) (fun g5 n3 hR4 => ?_)
  refine p_I (s := 10) hR4 (sK8 hR4 hw) rfl ⟨rfl, rfl, by decide⟩ rfl rv1 (fun g9 n7 hR8 => ?_)
  exact rf_ok (by exact hR8)
noncomputable def N_Reader_readRaw (n : NS) : Option (NS) :=
  (NL_Reader_readRaw_5 (n 8 0 10) n).bind <| fun z2 =>
  nk_Reader_readRaw_36 z2 n
theorem f_Reader_readRaw {w y : Prop} {g : g_S} {n : NS} {m : YS} (hw : w) (hR : RC w y g n m) : Rf (fun a b => RC w y a b m) (M_Reader_readRaw 1631 g) (N_Reader_readRaw n) := by
  unfold M_Reader_readRaw N_Reader_readRaw
  refine c_I (s := 10) hR (sK8 hR hw) rfl rfl (fun h1 => ?_)
  refine rf_bind (fL_Reader_readRaw_5 hw rfl h1 hR) (fun a3 z2 h => ?_)
  obtain ⟨rfl, r4⟩ := (show RI a3 z2 from h)
  exact fk_Reader_readRaw_36 hw rfl r4 hR
noncomputable def nk_Bytes_isLetter_12 (v0 : Int) (n : NS) : Option (Int) :=
  if v0 < 65 then
    some 0
  else
    if 90 < v0 then
      some 0
    else
      some 1
theorem fk_Bytes_isLetter_12 {w y : Prop} {g : g_S} {n : NS} {m : YS} {xv0 : Int32} {v0 : Int} (ev0 : xv0 = Int32.ofInt v0) (rv0 : inR v0) (hR : RC w y g n m) : Rf (fun a b => RZ a b) (k_Bytes_isLetter_12 xv0 g) (nk_Bytes_isLetter_12 v0 n) := by
  subst ev0
  unfold k_Bytes_isLetter_12 nk_Bytes_isLetter_12
  refine rf_lt rfl (e_n 65) rv0 (show inR 65 by decide) ?_ ?_
  · exact rf_ok (by exact ⟨(e_n 0), (.inl rfl)⟩)
  · refine rf_lt (e_n 90) rfl (show inR 90 by decide) rv0 ?_ ?_
    · exact rf_ok (by exact ⟨(e_n 0), (.inl rfl)⟩)
    · exact rf_ok (by exact ⟨(e_n 1), (.inr rfl)⟩)
noncomputable def N_Bytes_isLetter (v0 : Int) (n : NS) : Option (Int) :=
  if v0 < 97 then
    nk_Bytes_isLetter_12 v0 n
  else
    if 122 < v0 then
      nk_Bytes_isLetter_12 v0 n
    else
      some 1
theorem f_Bytes_isLetter {w y : Prop} {g : g_S} {n : NS} {m : YS} {xv0 : Int32} {v0 : Int} (ev0 : xv0 = Int32.ofInt v0) (rv0 : inR v0) (hR : RC w y g n m) : Rf (fun a b => RZ a b) (M_Bytes_isLetter xv0 g) (N_Bytes_isLetter v0 n) := by
  subst ev0
  unfold M_Bytes_isLetter N_Bytes_isLetter
  refine rf_lt rfl (e_n 97) rv0 (show inR 97 by decide) ?_ ?_
  · exact fk_Bytes_isLetter_12 rfl rv0 hR
  · refine rf_lt (e_n 122) rfl (show inR 122 by decide) rv0 ?_ ?_
    · exact fk_Bytes_isLetter_12 rfl rv0 hR
    · exact rf_ok (by exact ⟨(e_n 1), (.inr rfl)⟩)
noncomputable def N_Reader_isTag (v1 : Int) (n : NS) : Option (Int) :=
  nn (n 8 0 8) <|
  dx n (n 8 0 8) 1 v1 <|
  if (n 99 (n 8 0 8) v1) = 60 then
    ck (v1 + 1) <|
    if (v1 + 1) < (n 8 0 9) then
      nn (n 8 0 8) <|
      ck (v1 + 1) <|
      dx n (n 8 0 8) 1 (v1 + 1) <|
      (N_Bytes_isLetter (n 99 (n 8 0 8) (v1 + 1)) n).bind fun z13 =>
      if z13 = 0 then
        nn (n 8 0 8) <|
        ck (v1 + 1) <|
        dx n (n 8 0 8) 1 (v1 + 1) <|
        if (n 99 (n 8 0 8) (v1 + 1)) = 47 then
          ck (v1 + 2) <|
          if (v1 + 2) < (n 8 0 9) then
            nn (n 8 0 8) <|
            ck (v1 + 2) <|
            dx n (n 8 0 8) 1 (v1 + 2) <|
            (N_Bytes_isLetter (n 99 (n 8 0 8) (v1 + 2)) n).bind fun z30 =>
            if z30 = 0 then
              some 0
            else
              some 1
          else
            some 0
        else
          some 0
      else
        some 1
    else
      some 0
  else
    some 0
theorem f_Reader_isTag {w y : Prop} {g : g_S} {n : NS} {m : YS} (hw : w) {xv1 : Int32} {v1 : Int} (ev1 : xv1 = Int32.ofInt v1) (rv1 : inR v1) (hR : RC w y g n m) : Rf (fun a b => RZ a b) (M_Reader_isTag 1631 xv1 g) (N_Reader_isTag v1 n) := by
  subst ev1
  unfold M_Reader_isTag N_Reader_isTag
  refine c_D (s := 8) hR (sK8 hR hw) rfl rfl rfl (fun h1 => ?_)
  refine d_B hR h1 rfl rv1 (fun h2 h3 => ?_)
  refine rf_eq rfl (e_n 60) (inB.r h3) (show inR 60 by decide) ?_ ?_
  · refine rf_ck (fun h5 => ?_)
    refine c_I (s := 9) hR (sK8 hR hw) rfl rfl (fun h6 => ?_)
    refine rf_lt (e_add rfl (e_n 1)) rfl h5 h6 ?_ ?_
    · refine c_D (s := 8) hR (sK8 hR hw) rfl rfl rfl (fun h8 => ?_)
      refine rf_ck (fun h9 => ?_)
      refine d_B hR h8 (e_add rfl (e_n 1)) h9 (fun h10 h11 => ?_)
      refine rf_bind (f_Bytes_isLetter rfl (inB.r h11) hR) (fun a15 z13 h => ?_)
      obtain ⟨rfl, r14⟩ := h
      refine rf_eq rfl (e_n 0) (inZ.r r14) (show inR 0 by decide) ?_ ?_
      · refine c_D (s := 8) hR (sK8 hR hw) rfl rfl rfl (fun h17 => ?_)
        refine rf_ck (fun h18 => ?_)
        refine d_B hR h17 (e_add rfl (e_n 1)) h18 (fun h19 h20 => ?_)
        refine rf_eq rfl (e_n 47) (inB.r h20) (show inR 47 by decide) ?_ ?_
        · refine rf_ck (fun h22 => ?_)
          refine c_I (s := 9) hR (sK8 hR hw) rfl rfl (fun h23 => ?_)
          refine rf_lt (e_add rfl (e_n 2)) rfl h22 h23 ?_ ?_
          · refine c_D (s := 8) hR (sK8 hR hw) rfl rfl rfl (fun h25 => ?_)
            refine rf_ck (fun h26 => ?_)
            refine d_B hR h25 (e_add rfl (e_n 2)) h26 (fun h27 h28 => ?_)
            refine rf_bind (f_Bytes_isLetter rfl (inB.r h28) hR) (fun a32 z30 h => ?_)
            obtain ⟨rfl, r31⟩ := h
            refine rf_eq rfl (e_n 0) (inZ.r r31) (show inR 0 by decide) ?_ ?_
            · exact rf_ok (by exact ⟨(e_n 0), (.inl rfl)⟩)
            · exact rf_ok (by exact ⟨(e_n 1), (.inr rfl)⟩)
          · exact rf_ok (by exact ⟨(e_n 0), (.inl rfl)⟩)
        · exact rf_ok (by exact ⟨(e_n 0), (.inl rfl)⟩)
      · exact rf_ok (by exact ⟨(e_n 1), (.inr rfl)⟩)
    · exact rf_ok (by exact ⟨(e_n 0), (.inl rfl)⟩)
  · exact rf_ok (by exact ⟨(e_n 0), (.inl rfl)⟩)
noncomputable def nk_Bytes_packSmall_68 (v0 : Int) (v1 : Int) (v2 : Int) (v5 : Int) (w0 : Int) (w1 : Int) (n : NS) : Option ((Int × Int) ⊕ (Int)) :=
  or8 w1 w0 <|
  ckL (w1 + w0) <|
  ck (v5 + 1) <|
  some (.inl (w1 + w0, v5 + 1))
theorem fk_Bytes_packSmall_68 {w y : Prop} {g : g_S} {n : NS} {m : YS} {xv0 : Nat} {v0 : Int} (ev0 : xv0 = Int.toNat v0) (rv0 : 0 ≤ v0 ∧ lc (Int.toNat v0) = (99, v0)) {xv1 : Int32} {v1 : Int} (ev1 : xv1 = Int32.ofInt v1) (rv1 : inR v1) {xv2 : Int32} {v2 : Int} (ev2 : xv2 = Int32.ofInt v2) (rv2 : inR v2) {xv5 : Int32} {v5 : Int} (ev5 : xv5 = Int32.ofInt v5) (rv5 : inR v5) {xw0 : Int32} {w0 : Int} (ew0 : xw0 = Int32.ofInt w0) (rw0 : inR w0) {xw1 : Int64} {w1 : Int} (ew1 : xw1 = Int64.ofInt w1) (rw1 : inL w1) (hR : RC w y g n m) : Rf (RS (fun a b => RJ a.1 b.1 ∧ RI a.2 b.2) (fun a b => RJ a b)) (k_Bytes_packSmall_68 xv0 xv1 xv2 xv5 xw0 xw1 g) (nk_Bytes_packSmall_68 v0 v1 v2 v5 w0 w1 n) := by
  subst ev0
  subst ev1
  subst ev2
  subst ev5
  subst ew0
  subst ew1
  unfold k_Bytes_packSmall_68 nk_Bytes_packSmall_68
  refine rf_or8 (fun h1 => ?_)
  refine rf_ckL (fun h2 => ?_)
  refine rf_ck (fun h3 => ?_)
  exact rf_ok (by exact ⟨⟨(f_or8 rfl (f_i2l rfl rw0) h1), h2⟩, ⟨(e_add rfl (e_n 1)), h3⟩⟩)
noncomputable def nk_Bytes_packSmall_43 (v0 : Int) (v1 : Int) (v2 : Int) (v3 : Int) (v5 : Int) (w0 : Int) (n : NS) : Option ((Int × Int) ⊕ (Int)) :=
  ckL (v3 * 256) <|
  if w0 = 0 then
    dx n v0 1 v5 <|
    nk_Bytes_packSmall_68 v0 v1 v2 v5 (n 99 v0 v5) (v3 * 256) n
  else
    dx n v0 1 v5 <|
    ck ((n 99 v0 v5) + 32) <|
    nk_Bytes_packSmall_68 v0 v1 v2 v5 ((n 99 v0 v5) + 32) (v3 * 256) n
theorem fk_Bytes_packSmall_43 {w y : Prop} {g : g_S} {n : NS} {m : YS} {xv0 : Nat} {v0 : Int} (ev0 : xv0 = Int.toNat v0) (rv0 : 0 ≤ v0 ∧ lc (Int.toNat v0) = (99, v0)) {xv1 : Int32} {v1 : Int} (ev1 : xv1 = Int32.ofInt v1) (rv1 : inR v1) {xv2 : Int32} {v2 : Int} (ev2 : xv2 = Int32.ofInt v2) (rv2 : inR v2) {xv3 : Int64} {v3 : Int} (ev3 : xv3 = Int64.ofInt v3) (rv3 : inL v3) {xv5 : Int32} {v5 : Int} (ev5 : xv5 = Int32.ofInt v5) (rv5 : inR v5) {xw0 : Int32} {w0 : Int} (ew0 : xw0 = Int32.ofInt w0) (rw0 : inR w0) (hR : RC w y g n m) : Rf (RS (fun a b => RJ a.1 b.1 ∧ RI a.2 b.2) (fun a b => RJ a b)) (k_Bytes_packSmall_43 xv0 xv1 xv2 xv3 xv5 xw0 g) (nk_Bytes_packSmall_43 v0 v1 v2 v3 v5 w0 n) := by
  subst ev0
  subst ev1
  subst ev2
  subst ev3
  subst ev5
  subst ew0
  unfold k_Bytes_packSmall_43 nk_Bytes_packSmall_43
  refine rf_ckL (fun h1 => ?_)
  refine rf_eq rfl (e_n 0) rw0 (show inR 0 by decide) ?_ ?_
  · refine d_B hR rv0 rfl rv5 (fun h3 h4 => ?_)
    exact fk_Bytes_packSmall_68 rfl rv0 rfl rv1 rfl rv2 rfl rv5 rfl (inB.r h4) (f_shl8 rfl) h1 hR
  · refine d_B hR rv0 rfl rv5 (fun h5 h6 => ?_)
    refine rf_ck (fun h7 => ?_)
    exact fk_Bytes_packSmall_68 rfl rv0 rfl rv1 rfl rv2 rfl rv5 (e_add rfl (e_n 32)) h7 (f_shl8 rfl) h1 hR
noncomputable def nk_Bytes_packSmall_42 (v0 : Int) (v1 : Int) (v2 : Int) (v3 : Int) (v5 : Int) (n : NS) : Option ((Int × Int) ⊕ (Int)) :=
  nk_Bytes_packSmall_43 v0 v1 v2 v3 v5 0 n
theorem fk_Bytes_packSmall_42 {w y : Prop} {g : g_S} {n : NS} {m : YS} {xv0 : Nat} {v0 : Int} (ev0 : xv0 = Int.toNat v0) (rv0 : 0 ≤ v0 ∧ lc (Int.toNat v0) = (99, v0)) {xv1 : Int32} {v1 : Int} (ev1 : xv1 = Int32.ofInt v1) (rv1 : inR v1) {xv2 : Int32} {v2 : Int} (ev2 : xv2 = Int32.ofInt v2) (rv2 : inR v2) {xv3 : Int64} {v3 : Int} (ev3 : xv3 = Int64.ofInt v3) (rv3 : inL v3) {xv5 : Int32} {v5 : Int} (ev5 : xv5 = Int32.ofInt v5) (rv5 : inR v5) (hR : RC w y g n m) : Rf (RS (fun a b => RJ a.1 b.1 ∧ RI a.2 b.2) (fun a b => RJ a b)) (k_Bytes_packSmall_42 xv0 xv1 xv2 xv3 xv5 g) (nk_Bytes_packSmall_42 v0 v1 v2 v3 v5 n) := by
  subst ev0
  subst ev1
  subst ev2
  subst ev3
  subst ev5
  unfold k_Bytes_packSmall_42 nk_Bytes_packSmall_42
  exact fk_Bytes_packSmall_43 rfl rv0 rfl rv1 rfl rv2 rfl rv3 rfl rv5 (e_n 0) (show inR 0 by decide) hR
noncomputable def nb_Bytes_packSmall_5 (v0 : Int) (v1 : Int) (v2 : Int) (v3 : Int) (v5 : Int) (n : NS) : Option ((Int × Int) ⊕ (Int)) :=
  if v5 < v2 then
    ck (v1 + 8) <|
    if v5 < (v1 + 8) then
      dx n v0 1 v5 <|
      if (n 99 v0 v5) < 65 then
        nk_Bytes_packSmall_42 v0 v1 v2 v3 v5 n
      else
        dx n v0 1 v5 <|
        if 90 < (n 99 v0 v5) then
          nk_Bytes_packSmall_42 v0 v1 v2 v3 v5 n
        else
          nk_Bytes_packSmall_43 v0 v1 v2 v3 v5 1 n
    else
      some (.inr v3)
  else
    some (.inr v3)
theorem fb_Bytes_packSmall_5 {w y : Prop} {g : g_S} {n : NS} {m : YS} {xv0 : Nat} {v0 : Int} (ev0 : xv0 = Int.toNat v0) (rv0 : 0 ≤ v0 ∧ lc (Int.toNat v0) = (99, v0)) {xv1 : Int32} {v1 : Int} (ev1 : xv1 = Int32.ofInt v1) (rv1 : inR v1) {xv2 : Int32} {v2 : Int} (ev2 : xv2 = Int32.ofInt v2) (rv2 : inR v2) {xv3 : Int64} {v3 : Int} (ev3 : xv3 = Int64.ofInt v3) (rv3 : inL v3) {xv5 : Int32} {v5 : Int} (ev5 : xv5 = Int32.ofInt v5) (rv5 : inR v5) (hR : RC w y g n m) : Rf (RS (fun a b => RJ a.1 b.1 ∧ RI a.2 b.2) (fun a b => RJ a b)) (b_Bytes_packSmall_5 xv0 xv1 xv2 xv3 xv5 g) (nb_Bytes_packSmall_5 v0 v1 v2 v3 v5 n) := by
  subst ev0
  subst ev1
  subst ev2
  subst ev3
  subst ev5
  unfold b_Bytes_packSmall_5 nb_Bytes_packSmall_5
  refine rf_lt rfl rfl rv5 rv2 ?_ ?_
  · refine rf_ck (fun h2 => ?_)
    refine rf_lt rfl (e_add rfl (e_n 8)) rv5 h2 ?_ ?_
    · refine d_B hR rv0 rfl rv5 (fun h4 h5 => ?_)
      refine rf_lt rfl (e_n 65) (inB.r h5) (show inR 65 by decide) ?_ ?_
      · exact fk_Bytes_packSmall_42 rfl rv0 rfl rv1 rfl rv2 rfl rv3 rfl rv5 hR
      · refine d_B hR rv0 rfl rv5 (fun h7 h8 => ?_)
        refine rf_lt (e_n 90) rfl (show inR 90 by decide) (inB.r h8) ?_ ?_
        · exact fk_Bytes_packSmall_42 rfl rv0 rfl rv1 rfl rv2 rfl rv3 rfl rv5 hR
        · exact fk_Bytes_packSmall_43 rfl rv0 rfl rv1 rfl rv2 rfl rv3 rfl rv5 (e_n 1) (show inR 1 by decide) hR
    · exact rf_ok (by exact ⟨rfl, rv3⟩)
  · exact rf_ok (by exact ⟨rfl, rv3⟩)
noncomputable def NL_Bytes_packSmall_5 (v0 : Int) (v1 : Int) (v2 : Int) (v3 : Int) (v5 : Int) (n : NS) : Option (Int) :=
  it (fun s : Int × Int => nb_Bytes_packSmall_5 v0 v1 v2 s.1 s.2 n) (v3, v5)
theorem fL_Bytes_packSmall_5 {w y : Prop} {g : g_S} {n : NS} {m : YS} {xv0 : Nat} {v0 : Int} (ev0 : xv0 = Int.toNat v0) (rv0 : 0 ≤ v0 ∧ lc (Int.toNat v0) = (99, v0)) {xv1 : Int32} {v1 : Int} (ev1 : xv1 = Int32.ofInt v1) (rv1 : inR v1) {xv2 : Int32} {v2 : Int} (ev2 : xv2 = Int32.ofInt v2) (rv2 : inR v2) {xv3 : Int64} {v3 : Int} (ev3 : xv3 = Int64.ofInt v3) (rv3 : inL v3) {xv5 : Int32} {v5 : Int} (ev5 : xv5 = Int32.ofInt v5) (rv5 : inR v5) (hR : RC w y g n m) : Rf (fun a b => RJ a b) (L_Bytes_packSmall_5 xv0 xv1 xv2 xv3 xv5 g) (NL_Bytes_packSmall_5 v0 v1 v2 v3 v5 n) := by
  subst ev0
  subst ev1
  subst ev2
  subst ev3
  subst ev5
  unfold L_Bytes_packSmall_5 NL_Bytes_packSmall_5
  refine rf_it (I := (fun a b => RJ a.1 b.1 ∧ RI a.2 b.2)) (fun s t h => ?_) ⟨⟨rfl, rv3⟩, ⟨rfl, rv5⟩⟩
  exact fb_Bytes_packSmall_5 rfl rv0 rfl rv1 rfl rv2 h.1.1 h.1.2 h.2.1 h.2.2 hR
theorem NL_Bytes_packSmall_5_eq (v0 : Int) (v1 : Int) (v2 : Int) (v3 : Int) (v5 : Int) (n : NS) : NL_Bytes_packSmall_5 v0 v1 v2 v3 v5 n = itc (nb_Bytes_packSmall_5 v0 v1 v2 v3 v5 n) (fun s => NL_Bytes_packSmall_5 v0 v1 v2 s.1 s.2 n) := it_eq2 (fun s : Int × Int => nb_Bytes_packSmall_5 v0 v1 v2 s.1 s.2 n) (v3, v5)
noncomputable def N_Bytes_packSmall (v0 : Int) (v1 : Int) (v2 : Int) (n : NS) : Option (Int) :=
  (NL_Bytes_packSmall_5 v0 v1 v2 0 v1 n).bind <| fun z1 =>
  some z1
theorem f_Bytes_packSmall {w y : Prop} {g : g_S} {n : NS} {m : YS} {xv0 : Nat} {v0 : Int} (ev0 : xv0 = Int.toNat v0) (rv0 : 0 ≤ v0 ∧ lc (Int.toNat v0) = (99, v0)) {xv1 : Int32} {v1 : Int} (ev1 : xv1 = Int32.ofInt v1) (rv1 : inR v1) {xv2 : Int32} {v2 : Int} (ev2 : xv2 = Int32.ofInt v2) (rv2 : inR v2) (hR : RC w y g n m) : Rf (fun a b => RJ a b) (M_Bytes_packSmall xv0 xv1 xv2 g) (N_Bytes_packSmall v0 v1 v2 n) := by
  subst ev0
  subst ev1
  subst ev2
  unfold M_Bytes_packSmall N_Bytes_packSmall
  refine rf_bind (fL_Bytes_packSmall_5 rfl rv0 rfl rv1 rfl rv2 (f_n 0) (show inL 0 by decide) rfl rv1 hR) (fun a2 z1 h => ?_)
  obtain ⟨rfl, r3⟩ := (show RJ a2 z1 from h)
  exact rf_ok (by exact ⟨rfl, r3⟩)
noncomputable def nb_Reader_quoteEnd_2 (v2 : Int) (v3 : Int) (n : NS) : Option ((Int) ⊕ (Int)) :=
  if v3 < (n 8 0 9) then
    nn (n 8 0 8) <|
    dx n (n 8 0 8) 1 v3 <|
    if (n 99 (n 8 0 8) v3) = v2 then
      some (.inr v3)
    else
      ck (v3 + 1) <|
      some (.inl (v3 + 1))
  else
    some (.inr v3)
theorem fb_Reader_quoteEnd_2 {w y : Prop} {g : g_S} {n : NS} {m : YS} (hw : w) {xv2 : Int32} {v2 : Int} (ev2 : xv2 = Int32.ofInt v2) (rv2 : inR v2) {xv3 : Int32} {v3 : Int} (ev3 : xv3 = Int32.ofInt v3) (rv3 : inR v3) (hR : RC w y g n m) : Rf (RS (fun a b => RI a b) (fun a b => RI a b)) (b_Reader_quoteEnd_2 1631 xv2 xv3 g) (nb_Reader_quoteEnd_2 v2 v3 n) := by
  subst ev2
  subst ev3
  unfold b_Reader_quoteEnd_2 nb_Reader_quoteEnd_2
  refine c_I (s := 9) hR (sK8 hR hw) rfl rfl (fun h1 => ?_)
  refine rf_lt rfl rfl rv3 h1 ?_ ?_
  · refine c_D (s := 8) hR (sK8 hR hw) rfl rfl rfl (fun h3 => ?_)
    refine d_B hR h3 rfl rv3 (fun h4 h5 => ?_)
    refine rf_eq rfl rfl (inB.r h5) rv2 ?_ ?_
    · exact rf_ok (by exact ⟨rfl, rv3⟩)
    · refine rf_ck (fun h7 => ?_)
      exact rf_ok (by exact ⟨(e_add rfl (e_n 1)), h7⟩)
  · exact rf_ok (by exact ⟨rfl, rv3⟩)
noncomputable def NL_Reader_quoteEnd_2 (v2 : Int) (v3 : Int) (n : NS) : Option (Int) :=
  it (fun s : Int => nb_Reader_quoteEnd_2 v2 s n) (v3)
theorem fL_Reader_quoteEnd_2 {w y : Prop} {g : g_S} {n : NS} {m : YS} (hw : w) {xv2 : Int32} {v2 : Int} (ev2 : xv2 = Int32.ofInt v2) (rv2 : inR v2) {xv3 : Int32} {v3 : Int} (ev3 : xv3 = Int32.ofInt v3) (rv3 : inR v3) (hR : RC w y g n m) : Rf (fun a b => RI a b) (L_Reader_quoteEnd_2 1631 xv2 xv3 g) (NL_Reader_quoteEnd_2 v2 v3 n) := by
  subst ev2
  subst ev3
  unfold L_Reader_quoteEnd_2 NL_Reader_quoteEnd_2
  refine rf_it (I := (fun a b => RI a b)) (fun s t h => ?_) ⟨rfl, rv3⟩
  exact fb_Reader_quoteEnd_2 hw rfl rv2 h.1 h.2 hR
theorem NL_Reader_quoteEnd_2_eq (v2 : Int) (v3 : Int) (n : NS) : NL_Reader_quoteEnd_2 v2 v3 n = itc (nb_Reader_quoteEnd_2 v2 v3 n) (fun s => NL_Reader_quoteEnd_2 v2 s n) := it_eq2 (fun s : Int => nb_Reader_quoteEnd_2 v2 s n) (v3)
noncomputable def N_Reader_quoteEnd (v1 : Int) (v2 : Int) (n : NS) : Option (Int) :=
  (NL_Reader_quoteEnd_2 v2 v1 n).bind <| fun z1 =>
  some z1
theorem f_Reader_quoteEnd {w y : Prop} {g : g_S} {n : NS} {m : YS} (hw : w) {xv1 : Int32} {v1 : Int} (ev1 : xv1 = Int32.ofInt v1) (rv1 : inR v1) {xv2 : Int32} {v2 : Int} (ev2 : xv2 = Int32.ofInt v2) (rv2 : inR v2) (hR : RC w y g n m) : Rf (fun a b => RI a b) (M_Reader_quoteEnd 1631 xv1 xv2 g) (N_Reader_quoteEnd v1 v2 n) := by
  subst ev1
  subst ev2
  unfold M_Reader_quoteEnd N_Reader_quoteEnd
  refine rf_bind (fL_Reader_quoteEnd_2 hw rfl rv2 rfl rv1 hR) (fun a2 z1 h => ?_)
  obtain ⟨rfl, r3⟩ := (show RI a2 z1 from h)
  exact rf_ok (by exact ⟨rfl, r3⟩)
noncomputable def nb_Reader_plainEnd_2 (v2 : Int) (n : NS) : Option ((Int) ⊕ (Int)) :=
  if v2 < (n 8 0 9) then
    nn (n 8 0 8) <|
    dx n (n 8 0 8) 1 v2 <|
    if (n 99 (n 8 0 8) v2) = 62 then
      some (.inr v2)
    else
      nn (n 8 0 8) <|
      dx n (n 8 0 8) 1 v2 <|
      (N_Bytes_isBlank (n 99 (n 8 0 8) v2) n).bind fun z11 =>
      if z11 = 0 then
        ck (v2 + 1) <|
        some (.inl (v2 + 1))
      else
        some (.inr v2)
  else
    some (.inr v2)
theorem fb_Reader_plainEnd_2 {w y : Prop} {g : g_S} {n : NS} {m : YS} (hw : w) {xv2 : Int32} {v2 : Int} (ev2 : xv2 = Int32.ofInt v2) (rv2 : inR v2) (hR : RC w y g n m) : Rf (RS (fun a b => RI a b) (fun a b => RI a b)) (b_Reader_plainEnd_2 1631 xv2 g) (nb_Reader_plainEnd_2 v2 n) := by
  subst ev2
  unfold b_Reader_plainEnd_2 nb_Reader_plainEnd_2
  refine c_I (s := 9) hR (sK8 hR hw) rfl rfl (fun h1 => ?_)
  refine rf_lt rfl rfl rv2 h1 ?_ ?_
  · refine c_D (s := 8) hR (sK8 hR hw) rfl rfl rfl (fun h3 => ?_)
    refine d_B hR h3 rfl rv2 (fun h4 h5 => ?_)
    refine rf_eq rfl (e_n 62) (inB.r h5) (show inR 62 by decide) ?_ ?_
    · exact rf_ok (by exact ⟨rfl, rv2⟩)
    · refine c_D (s := 8) hR (sK8 hR hw) rfl rfl rfl (fun h7 => ?_)
      refine d_B hR h7 rfl rv2 (fun h8 h9 => ?_)
      refine rf_bind (f_Bytes_isBlank rfl (inB.r h9) hR) (fun a13 z11 h => ?_)
      obtain ⟨rfl, r12⟩ := h
      refine rf_eq rfl (e_n 0) (inZ.r r12) (show inR 0 by decide) ?_ ?_
      · refine rf_ck (fun h15 => ?_)
        exact rf_ok (by exact ⟨(e_add rfl (e_n 1)), h15⟩)
      · exact rf_ok (by exact ⟨rfl, rv2⟩)
  · exact rf_ok (by exact ⟨rfl, rv2⟩)
noncomputable def NL_Reader_plainEnd_2 (v2 : Int) (n : NS) : Option (Int) :=
  it (fun s : Int => nb_Reader_plainEnd_2 s n) (v2)
theorem fL_Reader_plainEnd_2 {w y : Prop} {g : g_S} {n : NS} {m : YS} (hw : w) {xv2 : Int32} {v2 : Int} (ev2 : xv2 = Int32.ofInt v2) (rv2 : inR v2) (hR : RC w y g n m) : Rf (fun a b => RI a b) (L_Reader_plainEnd_2 1631 xv2 g) (NL_Reader_plainEnd_2 v2 n) := by
  subst ev2
  unfold L_Reader_plainEnd_2 NL_Reader_plainEnd_2
  refine rf_it (I := (fun a b => RI a b)) (fun s t h => ?_) ⟨rfl, rv2⟩
  exact fb_Reader_plainEnd_2 hw h.1 h.2 hR
theorem NL_Reader_plainEnd_2_eq (v2 : Int) (n : NS) : NL_Reader_plainEnd_2 v2 n = itc (nb_Reader_plainEnd_2 v2 n) (fun s => NL_Reader_plainEnd_2 s n) := it_eq2 (fun s : Int => nb_Reader_plainEnd_2 s n) (v2)
noncomputable def N_Reader_plainEnd (v1 : Int) (n : NS) : Option (Int) :=
  (NL_Reader_plainEnd_2 v1 n).bind <| fun z1 =>
  some z1
theorem f_Reader_plainEnd {w y : Prop} {g : g_S} {n : NS} {m : YS} (hw : w) {xv1 : Int32} {v1 : Int} (ev1 : xv1 = Int32.ofInt v1) (rv1 : inR v1) (hR : RC w y g n m) : Rf (fun a b => RI a b) (M_Reader_plainEnd 1631 xv1 g) (N_Reader_plainEnd v1 n) := by
  subst ev1
  unfold M_Reader_plainEnd N_Reader_plainEnd
  refine rf_bind (fL_Reader_plainEnd_2 hw rfl rv1 hR) (fun a2 z1 h => ?_)
  obtain ⟨rfl, r3⟩ := (show RI a2 z1 from h)
  exact rf_ok (by exact ⟨rfl, r3⟩)
noncomputable def nb_Node_find_2 (v0 : Int) (v1 : Int) (v3 : Int) (n : NS) : Option ((Int) ⊕ ((Int) ⊕ (Unit))) :=
  if v3 < (n 7 v0 12) then
    ix v3 4 <|
    if (n 18 v0 v3) = v1 then
      some (.inr (.inl v3))
    else
      ck (v3 + 1) <|
      some (.inl (v3 + 1))
  else
    some (.inr (.inr ()))
theorem fb_Node_find_2 {w y : Prop} {g : g_S} {n : NS} {m : YS} (hw : w) {xv0 : Nat} {v0 : Int} (ev0 : xv0 = aNd v0) (rv0 : 0 ≤ v0 ∧ v0 ≤ 120) {xv1 : Int64} {v1 : Int} (ev1 : xv1 = Int64.ofInt v1) (rv1 : inL v1) {xv3 : Int32} {v3 : Int} (ev3 : xv3 = Int32.ofInt v3) (rv3 : inR v3) (hR : RC w y g n m) : Rf (RS (fun a b => RI a b) (RS (fun a b => RI a b) (fun _ _ => True))) (b_Node_find_2 xv0 xv1 xv3 g) (nb_Node_find_2 v0 v1 v3 n) := by
  subst ev0
  subst ev1
  subst ev3
  unfold b_Node_find_2 nb_Node_find_2
  refine c_I (s := 12) hR (ce_nd hR hw rv0) rfl rfl (fun h1 => ?_)
  refine rf_lt rfl rfl rv3 h1 ?_ ?_
  · refine c_S (p := _) hR hw (ce_nd hR hw rv0) (Nat.lt_trans (nd_lt rv0).1 (by decide)) rfl ?_
    refine s_L (L := 4) hR (ce_nm hR hw rv0) (ln_nm hR hw rv0) rfl rfl rv3 (fun h4 h5 => ?_)
    refine rf_leq rfl rfl h5 rv1 ?_ ?_
    · exact rf_ok (by exact ⟨rfl, rv3⟩)
    · refine rf_ck (fun h7 => ?_)
      exact rf_ok (by exact ⟨(e_add rfl (e_n 1)), h7⟩)
  · exact rf_ok (by exact trivial)
noncomputable def NL_Node_find_2 (v0 : Int) (v1 : Int) (v3 : Int) (n : NS) : Option ((Int) ⊕ (Unit)) :=
  it (fun s : Int => nb_Node_find_2 v0 v1 s n) (v3)
theorem fL_Node_find_2 {w y : Prop} {g : g_S} {n : NS} {m : YS} (hw : w) {xv0 : Nat} {v0 : Int} (ev0 : xv0 = aNd v0) (rv0 : 0 ≤ v0 ∧ v0 ≤ 120) {xv1 : Int64} {v1 : Int} (ev1 : xv1 = Int64.ofInt v1) (rv1 : inL v1) {xv3 : Int32} {v3 : Int} (ev3 : xv3 = Int32.ofInt v3) (rv3 : inR v3) (hR : RC w y g n m) : Rf (RS (fun a b => RI a b) (fun _ _ => True)) (L_Node_find_2 xv0 xv1 xv3 g) (NL_Node_find_2 v0 v1 v3 n) := by
  subst ev0
  subst ev1
  subst ev3
  unfold L_Node_find_2 NL_Node_find_2
  refine rf_it (I := (fun a b => RI a b)) (fun s t h => ?_) ⟨rfl, rv3⟩
  exact fb_Node_find_2 hw rfl rv0 rfl rv1 h.1 h.2 hR
theorem NL_Node_find_2_eq (v0 : Int) (v1 : Int) (v3 : Int) (n : NS) : NL_Node_find_2 v0 v1 v3 n = itc (nb_Node_find_2 v0 v1 v3 n) (fun s => NL_Node_find_2 v0 v1 s n) := it_eq2 (fun s : Int => nb_Node_find_2 v0 v1 s n) (v3)
noncomputable def N_Node_find (v0 : Int) (v1 : Int) (n : NS) : Option (Int) :=
  (NL_Node_find_2 v0 v1 0 n).bind <|
    us (fun z1 =>
    ix z1 4 <|
    some (5 * v0 + 1 + z1))
    (fun _ =>
    some (-1))
theorem f_Node_find {w y : Prop} {g : g_S} {n : NS} {m : YS} (hw : w) {xv0 : Nat} {v0 : Int} (ev0 : xv0 = aNd v0) (rv0 : 0 ≤ v0 ∧ v0 ≤ 120) {xv1 : Int64} {v1 : Int} (ev1 : xv1 = Int64.ofInt v1) (rv1 : inL v1) (hR : RC w y g n m) : Rf (fun a b => RoB a b) (M_Node_find xv0 xv1 g) (N_Node_find v0 v1 n) := by
  subst ev0
  subst ev1
  unfold M_Node_find N_Node_find
  refine rf_bind (fL_Node_find_2 hw rfl rv0 rfl rv1 (e_n 0) (show inR 0 by decide) hR) (fun a b h => rf_us h (fun a2 z1 h => ?_) (fun a b h => ?_))
  · obtain ⟨rfl, r3⟩ := (show RI a2 z1 from h)
    refine c_S (p := _) hR hw (ce_nd hR hw rv0) (Nat.lt_trans (nd_lt rv0).1 (by decide)) rfl ?_
    refine s_S (p := aBy (5 * (_) + 1 + _)) (L := 4) hR hw (ce_vs hR hw rv0) (sty_nd0 rv0 4 (by decide)).2.2 (ln_vs hR hw rv0) rfl rfl r3 (fun z1 z2 => srf19 z1 z2) (fun h5 => ?_)
    exact rf_ok (by exact ⟨(oy_s (by19 rv0 h5).1), (by19 rv0 h5).2⟩)
  · exact rf_ok (by exact ⟨oy_n, (show (-1 : Int) ≤ 631 by decide)⟩)
noncomputable def N_Node_addAttribute (v0 : Int) (v1 : Int) (n : NS) : Option (Int × NS) :=
  if (n 7 v0 12) = 4 then
    some ((-1), n)
  else
    ix (n 7 v0 12) 4 <|
    st (nw n 18 v0 (n 7 v0 12) v1) fun n7 =>
    ix (n7 7 v0 12) 4 <|
    (N_Bytes_clear (5 * v0 + 1 + (n7 7 v0 12)) n7).bind fun n15 =>
    ck ((n15 7 v0 12) + 1) <|
    st (nw n15 7 v0 12 ((n15 7 v0 12) + 1)) fun n21 =>
    some (5 * v0 + 1 + (n7 7 v0 12), n21)
theorem f_Node_addAttribute {w y : Prop} {g : g_S} {n : NS} {m : YS} (hw : w) {xv0 : Nat} {v0 : Int} (ev0 : xv0 = aNd v0) (rv0 : 0 ≤ v0 ∧ v0 ≤ 120) {xv1 : Int64} {v1 : Int} (ev1 : xv1 = Int64.ofInt v1) (rv1 : inL v1) (hR : RC w y g n m) : Rf (fun a b => RoB a.1 b.1 ∧ RC w y a.2 b.2 m) (M_Node_addAttribute xv0 xv1 g) (N_Node_addAttribute v0 v1 n) := by
  subst ev0
  subst ev1
  unfold M_Node_addAttribute N_Node_addAttribute
  refine c_I (s := 12) hR (ce_nd hR hw rv0) rfl rfl (fun h1 => ?_)
  refine rf_eq rfl (e_n 4) h1 (show inR 4 by decide) ?_ ?_
  · exact rf_ok (by exact ⟨⟨oy_n, (show (-1 : Int) ≤ 631 by decide)⟩, hR⟩)
  · refine c_S (p := _) hR hw (ce_nd hR hw rv0) (Nat.lt_trans (nd_lt rv0).1 (by decide)) rfl ?_
    refine c_I (s := 12) hR (ce_nd hR hw rv0) rfl rfl (fun h5 => ?_)
    refine t_L (L := 4) hR (ce_nm hR hw rv0) (ln_nm hR hw rv0) rfl rfl h5 rfl rv1 (fun g9 n7 hR8 => ?_)
    refine c_S (p := _) hR8 hw (ce_nd hR8 hw rv0) (Nat.lt_trans (nd_lt rv0).1 (by decide)) rfl ?_
    refine c_I (s := 12) hR8 (ce_nd hR8 hw rv0) rfl rfl (fun h11 => ?_)
    refine s_S (p := aBy (5 * (_) + 1 + _)) (L := 4) hR8 hw (ce_vs hR8 hw rv0) (sty_nd0 rv0 4 (by decide)).2.2 (ln_vs hR8 hw rv0) rfl rfl h11 (fun z1 z2 => srf19 z1 z2) (fun h12 => ?_)
    refine v_c (ce_by hR8 hw (by19 rv0 h12)).1 ?_
    refine rf_bind (f_Bytes_clear hw rfl (by19 rv0 h12) hR8) (fun g17 n15 hR16 => ?_)
    refine c_I (s := 12) hR16 (ce_nd hR16 hw rv0) rfl rfl (fun h18 => ?_)
    refine rf_ck (fun h19 => ?_)
    refine p_I (s := 12) hR16 (ce_nd hR16 hw rv0) rfl ⟨rfl, rfl, by decide⟩ (e_add rfl (e_n 1)) h19 (fun g23 n21 hR22 => ?_)
    exact rf_ok (by exact ⟨⟨(oy_s (by19 rv0 h12).1), (by19 rv0 h12).2⟩, hR22⟩)
noncomputable def nb_Reader_readAttribute_4 (v1 : Int) (v2 : Int) (v3 : Int) (n : NS) : Option ((Int) ⊕ (Int)) :=
  if v3 < (n 8 0 9) then
    nn (n 8 0 8) <|
    dx n (n 8 0 8) 1 v3 <|
    if (n 99 (n 8 0 8) v3) = 61 then
      some (.inr v3)
    else
      nn (n 8 0 8) <|
      dx n (n 8 0 8) 1 v3 <|
      if (n 99 (n 8 0 8) v3) = 47 then
        some (.inr v3)
      else
        nn (n 8 0 8) <|
        dx n (n 8 0 8) 1 v3 <|
        if (n 99 (n 8 0 8) v3) = 62 then
          some (.inr v3)
        else
          nn (n 8 0 8) <|
          dx n (n 8 0 8) 1 v3 <|
          (N_Bytes_isBlank (n 99 (n 8 0 8) v3) n).bind fun z19 =>
          if z19 = 0 then
            ck (v3 + 1) <|
            some (.inl (v3 + 1))
          else
            some (.inr v3)
  else
    some (.inr v3)
theorem fb_Reader_readAttribute_4 {w y : Prop} {g : g_S} {n : NS} {m : YS} (hw : w) {xv1 : Int32} {v1 : Int} (ev1 : xv1 = Int32.ofInt v1) (rv1 : inR v1) {xv2 : Int32} {v2 : Int} (ev2 : xv2 = Int32.ofInt v2) (rv2 : inR v2) {xv3 : Int32} {v3 : Int} (ev3 : xv3 = Int32.ofInt v3) (rv3 : inR v3) (hR : RC w y g n m) : Rf (RS (fun a b => RI a b) (fun a b => RI a b)) (b_Reader_readAttribute_4 1631 xv1 xv2 xv3 g) (nb_Reader_readAttribute_4 v1 v2 v3 n) := by
  subst ev1
  subst ev2
  subst ev3
  unfold b_Reader_readAttribute_4 nb_Reader_readAttribute_4
  refine c_I (s := 9) hR (sK8 hR hw) rfl rfl (fun h1 => ?_)
  refine rf_lt rfl rfl rv3 h1 ?_ ?_
  · refine c_D (s := 8) hR (sK8 hR hw) rfl rfl rfl (fun h3 => ?_)
    refine d_B hR h3 rfl rv3 (fun h4 h5 => ?_)
    refine rf_eq rfl (e_n 61) (inB.r h5) (show inR 61 by decide) ?_ ?_
    · exact rf_ok (by exact ⟨rfl, rv3⟩)
    · refine c_D (s := 8) hR (sK8 hR hw) rfl rfl rfl (fun h7 => ?_)
      refine d_B hR h7 rfl rv3 (fun h8 h9 => ?_)
      refine rf_eq rfl (e_n 47) (inB.r h9) (show inR 47 by decide) ?_ ?_
      · exact rf_ok (by exact ⟨rfl, rv3⟩)
      · refine c_D (s := 8) hR (sK8 hR hw) rfl rfl rfl (fun h11 => ?_)
        refine d_B hR h11 rfl rv3 (fun h12 h13 => ?_)
        refine rf_eq rfl (e_n 62) (inB.r h13) (show inR 62 by decide) ?_ ?_
        · exact rf_ok (by exact ⟨rfl, rv3⟩)
        · refine c_D (s := 8) hR (sK8 hR hw) rfl rfl rfl (fun h15 => ?_)
          refine d_B hR h15 rfl rv3 (fun h16 h17 => ?_)
          refine rf_bind (f_Bytes_isBlank rfl (inB.r h17) hR) (fun a21 z19 h => ?_)
          obtain ⟨rfl, r20⟩ := h
          refine rf_eq rfl (e_n 0) (inZ.r r20) (show inR 0 by decide) ?_ ?_
          · refine rf_ck (fun h23 => ?_)
            exact rf_ok (by exact ⟨(e_add rfl (e_n 1)), h23⟩)
          · exact rf_ok (by exact ⟨rfl, rv3⟩)
  · exact rf_ok (by exact ⟨rfl, rv3⟩)
noncomputable def NL_Reader_readAttribute_4 (v1 : Int) (v2 : Int) (v3 : Int) (n : NS) : Option (Int) :=
  it (fun s : Int => nb_Reader_readAttribute_4 v1 v2 s n) (v3)
theorem fL_Reader_readAttribute_4 {w y : Prop} {g : g_S} {n : NS} {m : YS} (hw : w) {xv1 : Int32} {v1 : Int} (ev1 : xv1 = Int32.ofInt v1) (rv1 : inR v1) {xv2 : Int32} {v2 : Int} (ev2 : xv2 = Int32.ofInt v2) (rv2 : inR v2) {xv3 : Int32} {v3 : Int} (ev3 : xv3 = Int32.ofInt v3) (rv3 : inR v3) (hR : RC w y g n m) : Rf (fun a b => RI a b) (L_Reader_readAttribute_4 1631 xv1 xv2 xv3 g) (NL_Reader_readAttribute_4 v1 v2 v3 n) := by
  subst ev1
  subst ev2
  subst ev3
  unfold L_Reader_readAttribute_4 NL_Reader_readAttribute_4
  refine rf_it (I := (fun a b => RI a b)) (fun s t h => ?_) ⟨rfl, rv3⟩
  exact fb_Reader_readAttribute_4 hw rfl rv1 rfl rv2 h.1 h.2 hR
theorem NL_Reader_readAttribute_4_eq (v1 : Int) (v2 : Int) (v3 : Int) (n : NS) : NL_Reader_readAttribute_4 v1 v2 v3 n = itc (nb_Reader_readAttribute_4 v1 v2 v3 n) (fun s => NL_Reader_readAttribute_4 v1 v2 s n) := it_eq2 (fun s : Int => nb_Reader_readAttribute_4 v1 v2 s n) (v3)
noncomputable def nk_Reader_readAttribute_245 (v1 : Int) (v3 : Int) (v6 : Int) (v7 : Int) (w0 : Int) (n : NS) : Option (Int × NS) :=
  if w0 < 0 then
    (N_Reader_tell 2 v1 n).bind fun n13 =>
    some (v3, n13)
  else
    (N_Reader_decode v6 v7 1 w0 n).bind <| u2 fun z4 n7 =>
    some (v3, n7)
theorem fk_Reader_readAttribute_245 {w y : Prop} {g : g_S} {n : NS} {m : YS} (hw : w) {xv1 : Int32} {v1 : Int} (ev1 : xv1 = Int32.ofInt v1) (rv1 : inR v1) {xv3 : Int32} {v3 : Int} (ev3 : xv3 = Int32.ofInt v3) (rv3 : inR v3) {xv6 : Int32} {v6 : Int} (ev6 : xv6 = Int32.ofInt v6) (rv6 : inR v6) {xv7 : Int32} {v7 : Int} (ev7 : xv7 = Int32.ofInt v7) (rv7 : inR v7) {xw0 : Option Nat} {w0 : Int} (ew0 : xw0 = oBy w0) (rw0 : w0 ≤ 631) (hR : RC w y g n m) : Rf (fun a b => RI a.1 b.1 ∧ RC w y a.2 b.2 m) (k_Reader_readAttribute_245 1631 xv1 xv3 xv6 xv7 xw0 g) (nk_Reader_readAttribute_245 v1 v3 v6 v7 w0 n) := by
  subst ev1
  subst ev3
  subst ev6
  subst ev7
  subst ew0
  unfold k_Reader_readAttribute_245 nk_Reader_readAttribute_245
  refine rf_oy (fun h1 => ?_) (fun h1 => ?_)
  · refine v_c2 (sK8 hR hw).1 ?_
    refine rf_c2 (f_Reader_decode hw rfl rv6 rfl rv7 (e_n 1) (show inR 1 by decide) rfl (And.intro h1 rw0) hR) (fun a6 g9 b h => ?_)
    obtain ⟨z4, n7⟩ := b
    refine rf_v2 ?_
    obtain ⟨rfl, r5⟩ := (show RI a6 z4 from h.1)
    have hR8 : RC w y g9 n7 m := h.2
    exact rf_ok (by exact ⟨⟨rfl, rv3⟩, hR8⟩)
  · refine v_c (sK8 hR hw).1 ?_
    refine rf_bind (f_Reader_tell hw (e_n 2) (show inR 2 by decide) rfl rv1 hR) (fun g15 n13 hR14 => ?_)
    exact rf_ok (by exact ⟨⟨rfl, rv3⟩, hR14⟩)
noncomputable def nk_Reader_readAttribute_206 (v1 : Int) (v2 : Int) (v3 : Int) (v4 : Int) (v6 : Int) (v7 : Int) (n : NS) : Option (Int × NS) :=
  if v3 < (n 8 0 9) then
    if v2 = 0 then
      (N_Node_find 120 v4 n).bind fun z6 =>
      if z6 < 0 then
        (N_Node_addAttribute 120 v4 n).bind <| u2 fun z14 n17 =>
        if z14 < 0 then
          nk_Reader_readAttribute_245 v1 v3 v6 v7 (-1) n17
        else
          nk_Reader_readAttribute_245 v1 v3 v6 v7 z14 n17
      else
        nk_Reader_readAttribute_245 v1 v3 v6 v7 (-1) n
    else
      some (v3, n)
  else
    some (v3, n)
theorem fk_Reader_readAttribute_206 {w y : Prop} {g : g_S} {n : NS} {m : YS} (hw : w) {xv1 : Int32} {v1 : Int} (ev1 : xv1 = Int32.ofInt v1) (rv1 : inR v1) {xv2 : Int32} {v2 : Int} (ev2 : xv2 = Int32.ofInt v2) (rv2 : inR v2) {xv3 : Int32} {v3 : Int} (ev3 : xv3 = Int32.ofInt v3) (rv3 : inR v3) {xv4 : Int64} {v4 : Int} (ev4 : xv4 = Int64.ofInt v4) (rv4 : inL v4) {xv6 : Int32} {v6 : Int} (ev6 : xv6 = Int32.ofInt v6) (rv6 : inR v6) {xv7 : Int32} {v7 : Int} (ev7 : xv7 = Int32.ofInt v7) (rv7 : inR v7) (hR : RC w y g n m) : Rf (fun a b => RI a.1 b.1 ∧ RC w y a.2 b.2 m) (k_Reader_readAttribute_206 1631 xv1 xv2 xv3 xv4 xv6 xv7 g) (nk_Reader_readAttribute_206 v1 v2 v3 v4 v6 v7 n) := by
  subst ev1
  subst ev2
  subst ev3
  subst ev4
  subst ev6
  subst ev7
  unfold k_Reader_readAttribute_206 nk_Reader_readAttribute_206
  refine c_I (s := 9) hR (sK8 hR hw) rfl rfl (fun h1 => ?_)
  refine rf_lt rfl rfl rv3 h1 ?_ ?_
  · refine rf_eq rfl (e_n 0) rv2 (show inR 0 by decide) ?_ ?_
    · refine c_S hR hw (sK8 hR hw) (by decide) (show srf 8 0 7 = some 1636 from rfl) ?_
      refine v_c (nS120 ▸ (ce_nd hR hw (by decide))).1 ?_
      refine rf_bind (f_Node_find hw nS120.symm (by decide) rfl rv4 hR) (fun a8 z6 h => ?_)
      obtain ⟨rfl, r7⟩ := h
      refine rf_oy (fun h9 => ?_) (fun h9 => ?_)
      · exact fk_Reader_readAttribute_245 hw rfl rv1 rfl rv3 rfl rv6 rfl rv7 oy_n (show (-1 : Int) ≤ 631 by decide) hR
      · refine c_S hR hw (sK8 hR hw) (by decide) (show srf 8 0 7 = some 1636 from rfl) ?_
        refine v_c2 (nS120 ▸ (ce_nd hR hw (by decide))).1 ?_
        refine rf_c2 (f_Node_addAttribute hw nS120.symm (by decide) rfl rv4 hR) (fun a16 g19 b h => ?_)
        obtain ⟨z14, n17⟩ := b
        refine rf_v2 ?_
        obtain ⟨rfl, r15⟩ := (show RoB a16 z14 from h.1)
        have hR18 : RC w y g19 n17 m := h.2
        refine rf_oy (fun h20 => ?_) (fun h20 => ?_)
        · exact fk_Reader_readAttribute_245 hw rfl rv1 rfl rv3 rfl rv6 rfl rv7 (oy_s (And.intro h20 r15).1) (And.intro h20 r15).2 hR18
        · exact fk_Reader_readAttribute_245 hw rfl rv1 rfl rv3 rfl rv6 rfl rv7 oy_n (show (-1 : Int) ≤ 631 by decide) hR18
    · exact rf_ok (by exact ⟨⟨rfl, rv3⟩, hR⟩)
  · exact rf_ok (by exact ⟨⟨rfl, rv3⟩, hR⟩)
noncomputable def nk_Reader_readAttribute_205 (v1 : Int) (v2 : Int) (v4 : Int) (v6 : Int) (v7 : Int) (w0 : Int) (n : NS) : Option (Int × NS) :=
  nk_Reader_readAttribute_206 v1 v2 w0 v4 v6 v7 n
theorem fk_Reader_readAttribute_205 {w y : Prop} {g : g_S} {n : NS} {m : YS} (hw : w) {xv1 : Int32} {v1 : Int} (ev1 : xv1 = Int32.ofInt v1) (rv1 : inR v1) {xv2 : Int32} {v2 : Int} (ev2 : xv2 = Int32.ofInt v2) (rv2 : inR v2) {xv4 : Int64} {v4 : Int} (ev4 : xv4 = Int64.ofInt v4) (rv4 : inL v4) {xv6 : Int32} {v6 : Int} (ev6 : xv6 = Int32.ofInt v6) (rv6 : inR v6) {xv7 : Int32} {v7 : Int} (ev7 : xv7 = Int32.ofInt v7) (rv7 : inR v7) {xw0 : Int32} {w0 : Int} (ew0 : xw0 = Int32.ofInt w0) (rw0 : inR w0) (hR : RC w y g n m) : Rf (fun a b => RI a.1 b.1 ∧ RC w y a.2 b.2 m) (k_Reader_readAttribute_205 1631 xv1 xv2 xv4 xv6 xv7 xw0 g) (nk_Reader_readAttribute_205 v1 v2 v4 v6 v7 w0 n) := by
  subst ev1
  subst ev2
  subst ev4
  subst ev6
  subst ev7
  subst ew0
  unfold k_Reader_readAttribute_205 nk_Reader_readAttribute_205
  exact fk_Reader_readAttribute_206 hw rfl rv1 rfl rv2 rfl rw0 rfl rv4 rfl rv6 rfl rv7 hR
noncomputable def nk_Reader_readAttribute_189 (v1 : Int) (v2 : Int) (v4 : Int) (v6 : Int) (v8 : Int) (w0 : Int) (n : NS) : Option (Int × NS) :=
  if v8 = 0 then
    nk_Reader_readAttribute_205 v1 v2 v4 v6 w0 w0 n
  else
    ck (w0 + 1) <|
    nk_Reader_readAttribute_205 v1 v2 v4 v6 w0 (w0 + 1) n
theorem fk_Reader_readAttribute_189 {w y : Prop} {g : g_S} {n : NS} {m : YS} (hw : w) {xv1 : Int32} {v1 : Int} (ev1 : xv1 = Int32.ofInt v1) (rv1 : inR v1) {xv2 : Int32} {v2 : Int} (ev2 : xv2 = Int32.ofInt v2) (rv2 : inR v2) {xv4 : Int64} {v4 : Int} (ev4 : xv4 = Int64.ofInt v4) (rv4 : inL v4) {xv6 : Int32} {v6 : Int} (ev6 : xv6 = Int32.ofInt v6) (rv6 : inR v6) {xv8 : Int32} {v8 : Int} (ev8 : xv8 = Int32.ofInt v8) (rv8 : inR v8) {xw0 : Int32} {w0 : Int} (ew0 : xw0 = Int32.ofInt w0) (rw0 : inR w0) (hR : RC w y g n m) : Rf (fun a b => RI a.1 b.1 ∧ RC w y a.2 b.2 m) (k_Reader_readAttribute_189 1631 xv1 xv2 xv4 xv6 xv8 xw0 g) (nk_Reader_readAttribute_189 v1 v2 v4 v6 v8 w0 n) := by
  subst ev1
  subst ev2
  subst ev4
  subst ev6
  subst ev8
  subst ew0
  unfold k_Reader_readAttribute_189 nk_Reader_readAttribute_189
  refine rf_eq rfl (e_n 0) rv8 (show inR 0 by decide) ?_ ?_
  · exact fk_Reader_readAttribute_205 hw rfl rv1 rfl rv2 rfl rv4 rfl rv6 rfl rw0 rfl rw0 hR
  · refine rf_ck (fun h2 => ?_)
    exact fk_Reader_readAttribute_205 hw rfl rv1 rfl rv2 rfl rv4 rfl rv6 rfl rw0 (e_add rfl (e_n 1)) h2 hR
noncomputable def nk_Reader_readAttribute_158 (v1 : Int) (v2 : Int) (v4 : Int) (v8 : Int) (w0 : Int) (n : NS) : Option (Int × NS) :=
  if v8 = 0 then
    (N_Reader_plainEnd w0 n).bind fun z3 =>
    nk_Reader_readAttribute_189 v1 v2 v4 w0 v8 z3 n
  else
    nn (n 8 0 8) <|
    ck (w0 - 1) <|
    dx n (n 8 0 8) 1 (w0 - 1) <|
    (N_Reader_quoteEnd w0 (n 99 (n 8 0 8) (w0 - 1)) n).bind fun z11 =>
    nk_Reader_readAttribute_189 v1 v2 v4 w0 v8 z11 n
theorem fk_Reader_readAttribute_158 {w y : Prop} {g : g_S} {n : NS} {m : YS} (hw : w) {xv1 : Int32} {v1 : Int} (ev1 : xv1 = Int32.ofInt v1) (rv1 : inR v1) {xv2 : Int32} {v2 : Int} (ev2 : xv2 = Int32.ofInt v2) (rv2 : inR v2) {xv4 : Int64} {v4 : Int} (ev4 : xv4 = Int64.ofInt v4) (rv4 : inL v4) {xv8 : Int32} {v8 : Int} (ev8 : xv8 = Int32.ofInt v8) (rv8 : inR v8) {xw0 : Int32} {w0 : Int} (ew0 : xw0 = Int32.ofInt w0) (rw0 : inR w0) (hR : RC w y g n m) : Rf (fun a b => RI a.1 b.1 ∧ RC w y a.2 b.2 m) (k_Reader_readAttribute_158 1631 xv1 xv2 xv4 xv8 xw0 g) (nk_Reader_readAttribute_158 v1 v2 v4 v8 w0 n) := by
  subst ev1
  subst ev2
  subst ev4
  subst ev8
  subst ew0
  unfold k_Reader_readAttribute_158 nk_Reader_readAttribute_158
  refine rf_eq rfl (e_n 0) rv8 (show inR 0 by decide) ?_ ?_
  · refine v_c (sK8 hR hw).1 ?_
    refine rf_bind (f_Reader_plainEnd hw rfl rw0 hR) (fun a5 z3 h => ?_)
    obtain ⟨rfl, r4⟩ := h
    exact fk_Reader_readAttribute_189 hw rfl rv1 rfl rv2 rfl rv4 rfl rw0 rfl rv8 rfl r4 hR
  · refine c_D (s := 8) hR (sK8 hR hw) rfl rfl rfl (fun h6 => ?_)
    refine rf_ck (fun h7 => ?_)
    refine d_B hR h6 (e_sub rfl (e_n 1)) h7 (fun h8 h9 => ?_)
    refine v_c (sK8 hR hw).1 ?_
    refine rf_bind (f_Reader_quoteEnd hw rfl rw0 rfl (inB.r h9) hR) (fun a13 z11 h => ?_)
    obtain ⟨rfl, r12⟩ := h
    exact fk_Reader_readAttribute_189 hw rfl rv1 rfl rv2 rfl rv4 rfl rw0 rfl rv8 rfl r12 hR
noncomputable def nk_Reader_readAttribute_142 (v1 : Int) (v2 : Int) (v4 : Int) (v6 : Int) (w0 : Int) (n : NS) : Option (Int × NS) :=
  if w0 = 0 then
    nk_Reader_readAttribute_158 v1 v2 v4 w0 v6 n
  else
    ck (v6 + 1) <|
    nk_Reader_readAttribute_158 v1 v2 v4 w0 (v6 + 1) n
theorem fk_Reader_readAttribute_142 {w y : Prop} {g : g_S} {n : NS} {m : YS} (hw : w) {xv1 : Int32} {v1 : Int} (ev1 : xv1 = Int32.ofInt v1) (rv1 : inR v1) {xv2 : Int32} {v2 : Int} (ev2 : xv2 = Int32.ofInt v2) (rv2 : inR v2) {xv4 : Int64} {v4 : Int} (ev4 : xv4 = Int64.ofInt v4) (rv4 : inL v4) {xv6 : Int32} {v6 : Int} (ev6 : xv6 = Int32.ofInt v6) (rv6 : inR v6) {xw0 : Int32} {w0 : Int} (ew0 : xw0 = Int32.ofInt w0) (rw0 : inR w0) (hR : RC w y g n m) : Rf (fun a b => RI a.1 b.1 ∧ RC w y a.2 b.2 m) (k_Reader_readAttribute_142 1631 xv1 xv2 xv4 xv6 xw0 g) (nk_Reader_readAttribute_142 v1 v2 v4 v6 w0 n) := by
  subst ev1
  subst ev2
  subst ev4
  subst ev6
  subst ew0
  unfold k_Reader_readAttribute_142 nk_Reader_readAttribute_142
  refine rf_eq rfl (e_n 0) rw0 (show inR 0 by decide) ?_ ?_
  · exact fk_Reader_readAttribute_158 hw rfl rv1 rfl rv2 rfl rv4 rfl rw0 rfl rv6 hR
  · refine rf_ck (fun h2 => ?_)
    exact fk_Reader_readAttribute_158 hw rfl rv1 rfl rv2 rfl rv4 rfl rw0 (e_add rfl (e_n 1)) h2 hR
noncomputable def nk_Reader_readAttribute_141 (v1 : Int) (v2 : Int) (v4 : Int) (v6 : Int) (n : NS) : Option (Int × NS) :=
  nk_Reader_readAttribute_142 v1 v2 v4 v6 0 n
theorem fk_Reader_readAttribute_141 {w y : Prop} {g : g_S} {n : NS} {m : YS} (hw : w) {xv1 : Int32} {v1 : Int} (ev1 : xv1 = Int32.ofInt v1) (rv1 : inR v1) {xv2 : Int32} {v2 : Int} (ev2 : xv2 = Int32.ofInt v2) (rv2 : inR v2) {xv4 : Int64} {v4 : Int} (ev4 : xv4 = Int64.ofInt v4) (rv4 : inL v4) {xv6 : Int32} {v6 : Int} (ev6 : xv6 = Int32.ofInt v6) (rv6 : inR v6) (hR : RC w y g n m) : Rf (fun a b => RI a.1 b.1 ∧ RC w y a.2 b.2 m) (k_Reader_readAttribute_141 1631 xv1 xv2 xv4 xv6 g) (nk_Reader_readAttribute_141 v1 v2 v4 v6 n) := by
  subst ev1
  subst ev2
  subst ev4
  subst ev6
  unfold k_Reader_readAttribute_141 nk_Reader_readAttribute_141
  exact fk_Reader_readAttribute_142 hw rfl rv1 rfl rv2 rfl rv4 rfl rv6 (e_n 0) (show inR 0 by decide) hR
noncomputable def nk_Reader_readAttribute_137 (v1 : Int) (v2 : Int) (v4 : Int) (v6 : Int) (n : NS) : Option (Int × NS) :=
  nk_Reader_readAttribute_142 v1 v2 v4 v6 1 n
theorem fk_Reader_readAttribute_137 {w y : Prop} {g : g_S} {n : NS} {m : YS} (hw : w) {xv1 : Int32} {v1 : Int} (ev1 : xv1 = Int32.ofInt v1) (rv1 : inR v1) {xv2 : Int32} {v2 : Int} (ev2 : xv2 = Int32.ofInt v2) (rv2 : inR v2) {xv4 : Int64} {v4 : Int} (ev4 : xv4 = Int64.ofInt v4) (rv4 : inL v4) {xv6 : Int32} {v6 : Int} (ev6 : xv6 = Int32.ofInt v6) (rv6 : inR v6) (hR : RC w y g n m) : Rf (fun a b => RI a.1 b.1 ∧ RC w y a.2 b.2 m) (k_Reader_readAttribute_137 1631 xv1 xv2 xv4 xv6 g) (nk_Reader_readAttribute_137 v1 v2 v4 v6 n) := by
  subst ev1
  subst ev2
  subst ev4
  subst ev6
  unfold k_Reader_readAttribute_137 nk_Reader_readAttribute_137
  exact fk_Reader_readAttribute_142 hw rfl rv1 rfl rv2 rfl rv4 rfl rv6 (e_n 1) (show inR 1 by decide) hR
noncomputable def nk_Reader_readAttribute_63 (v1 : Int) (v2 : Int) (v3 : Int) (n : NS) : Option (Int × NS) :=
  nn (n 8 0 8) <|
  (N_Bytes_packSmall (n 8 0 8) v1 v3 n).bind fun z3 =>
  if v3 < (n 8 0 9) then
    nn (n 8 0 8) <|
    dx n (n 8 0 8) 1 v3 <|
    if (n 99 (n 8 0 8) v3) = 61 then
      ck (v3 + 1) <|
      if (v3 + 1) < (n 8 0 9) then
        nn (n 8 0 8) <|
        dx n (n 8 0 8) 1 (v3 + 1) <|
        if (n 99 (n 8 0 8) (v3 + 1)) = 34 then
          nk_Reader_readAttribute_137 v1 v2 z3 (v3 + 1) n
        else
          nn (n 8 0 8) <|
          dx n (n 8 0 8) 1 (v3 + 1) <|
          if (n 99 (n 8 0 8) (v3 + 1)) = 39 then
            nk_Reader_readAttribute_137 v1 v2 z3 (v3 + 1) n
          else
            nk_Reader_readAttribute_141 v1 v2 z3 (v3 + 1) n
      else
        nk_Reader_readAttribute_141 v1 v2 z3 (v3 + 1) n
    else
      nk_Reader_readAttribute_206 v1 v2 v3 z3 v3 v3 n
  else
    nk_Reader_readAttribute_206 v1 v2 v3 z3 v3 v3 n
theorem fk_Reader_readAttribute_63 {w y : Prop} {g : g_S} {n : NS} {m : YS} (hw : w) {xv1 : Int32} {v1 : Int} (ev1 : xv1 = Int32.ofInt v1) (rv1 : inR v1) {xv2 : Int32} {v2 : Int} (ev2 : xv2 = Int32.ofInt v2) (rv2 : inR v2) {xv3 : Int32} {v3 : Int} (ev3 : xv3 = Int32.ofInt v3) (rv3 : inR v3) (hR : RC w y g n m) : Rf (fun a b => RI a.1 b.1 ∧ RC w y a.2 b.2 m) (k_Reader_readAttribute_63 1631 xv1 xv2 xv3 g) (nk_Reader_readAttribute_63 v1 v2 v3 n) := by
  subst ev1
  subst ev2
  subst ev3
  unfold k_Reader_readAttribute_63 nk_Reader_readAttribute_63
  refine c_D (s := 8) hR (sK8 hR hw) rfl rfl rfl (fun h1 => ?_)
  refine rf_bind (f_Bytes_packSmall rfl h1 rfl rv1 rfl rv3 hR) (fun a5 z3 h => ?_)
  obtain ⟨rfl, r4⟩ := h
  refine c_I (s := 9) hR (sK8 hR hw) rfl rfl (fun h6 => ?_)
  refine rf_lt rfl rfl rv3 h6 ?_ ?_
  · refine c_D (s := 8) hR (sK8 hR hw) rfl rfl rfl (fun h8 => ?_)
    refine d_B hR h8 rfl rv3 (fun h9 h10 => ?_)
    refine rf_eq rfl (e_n 61) (inB.r h10) (show inR 61 by decide) ?_ ?_
    · refine rf_ck (fun h12 => ?_)
      refine c_I (s := 9) hR (sK8 hR hw) rfl rfl (fun h13 => ?_)
      refine rf_lt (e_add rfl (e_n 1)) rfl h12 h13 ?_ ?_
      · refine c_D (s := 8) hR (sK8 hR hw) rfl rfl rfl (fun h15 => ?_)
        refine d_B hR h15 (e_add rfl (e_n 1)) h12 (fun h16 h17 => ?_)
        refine rf_eq rfl (e_n 34) (inB.r h17) (show inR 34 by decide) ?_ ?_
        · exact fk_Reader_readAttribute_137 hw rfl rv1 rfl rv2 rfl r4 (e_add rfl (e_n 1)) h12 hR
        · refine c_D (s := 8) hR (sK8 hR hw) rfl rfl rfl (fun h19 => ?_)
          refine d_B hR h19 (e_add rfl (e_n 1)) h12 (fun h20 h21 => ?_)
          refine rf_eq rfl (e_n 39) (inB.r h21) (show inR 39 by decide) ?_ ?_
          · exact fk_Reader_readAttribute_137 hw rfl rv1 rfl rv2 rfl r4 (e_add rfl (e_n 1)) h12 hR
          · exact fk_Reader_readAttribute_141 hw rfl rv1 rfl rv2 rfl r4 (e_add rfl (e_n 1)) h12 hR
      · exact fk_Reader_readAttribute_141 hw rfl rv1 rfl rv2 rfl r4 (e_add rfl (e_n 1)) h12 hR
    · exact fk_Reader_readAttribute_206 hw rfl rv1 rfl rv2 rfl rv3 rfl r4 rfl rv3 rfl rv3 hR
  · exact fk_Reader_readAttribute_206 hw rfl rv1 rfl rv2 rfl rv3 rfl r4 rfl rv3 rfl rv3 hR
noncomputable def N_Reader_readAttribute (v1 : Int) (v2 : Int) (n : NS) : Option (Int × NS) :=
  ck (v1 + 1) <|
  (NL_Reader_readAttribute_4 v1 v2 (v1 + 1) n).bind <| fun z2 =>
  nk_Reader_readAttribute_63 v1 v2 z2 n
theorem f_Reader_readAttribute {w y : Prop} {g : g_S} {n : NS} {m : YS} (hw : w) {xv1 : Int32} {v1 : Int} (ev1 : xv1 = Int32.ofInt v1) (rv1 : inR v1) {xv2 : Int32} {v2 : Int} (ev2 : xv2 = Int32.ofInt v2) (rv2 : inR v2) (hR : RC w y g n m) : Rf (fun a b => RI a.1 b.1 ∧ RC w y a.2 b.2 m) (M_Reader_readAttribute 1631 xv1 xv2 g) (N_Reader_readAttribute v1 v2 n) := by
  subst ev1
  subst ev2
  unfold M_Reader_readAttribute N_Reader_readAttribute
  refine rf_ck (fun h1 => ?_)
  refine rf_bind (fL_Reader_readAttribute_4 hw rfl rv1 rfl rv2 (e_add rfl (e_n 1)) h1 hR) (fun a3 z2 h => ?_)
  obtain ⟨rfl, r4⟩ := (show RI a3 z2 from h)
  exact fk_Reader_readAttribute_63 hw rfl rv1 rfl rv2 rfl r4 hR
noncomputable def nk_Reader_closeTo_59 (v1 : Int) (n : NS) : Option ((NS) ⊕ (NS)) :=
  ck ((n 8 0 6) - 1) <|
  st (nw n 8 0 6 ((n 8 0 6) - 1)) fun n4 =>
  some (.inl n4)
theorem fk_Reader_closeTo_59 {w y : Prop} {g : g_S} {n : NS} {m : YS} (hw : w) {xv1 : Int32} {v1 : Int} (ev1 : xv1 = Int32.ofInt v1) (rv1 : inR v1) (hR : RC w y g n m) : Rf (RS (fun a b => RC w y a b m) (fun a b => RC w y a b m)) (k_Reader_closeTo_59 1631 xv1 g) (nk_Reader_closeTo_59 v1 n) := by
  subst ev1
  unfold k_Reader_closeTo_59 nk_Reader_closeTo_59
  refine c_I (s := 6) hR (sK8 hR hw) rfl rfl (fun h1 => ?_)
  refine rf_ck (fun h2 => ?_)
  refine p_I (s := 6) hR (sK8 hR hw) rfl ⟨rfl, rfl, by decide⟩ (e_sub rfl (e_n 1)) h2 (fun g6 n4 hR5 => ?_)
  exact rf_ok (by exact hR5)
noncomputable def nb_Reader_closeTo_0 (v1 : Int) (n : NS) : Option ((NS) ⊕ (NS)) :=
  ck (v1 + 1) <|
  if (v1 + 1) < (n 8 0 6) then
    ck ((n 8 0 6) - 1) <|
    ix ((n 8 0 6) - 1) 22 <|
    ix (n 30 0 ((n 8 0 6) - 1)) 120 <|
    if (n 7 (n 30 0 ((n 8 0 6) - 1)) 0) = 1 then
      nk_Reader_closeTo_59 v1 n
    else
      if (n 7 (n 30 0 ((n 8 0 6) - 1)) 0) = 4 then
        nk_Reader_closeTo_59 v1 n
      else
        ck ((n 8 0 6) - 1) <|
        ix ((n 8 0 6) - 1) 22 <|
        (N_Reader_tell 4 (n 31 0 ((n 8 0 6) - 1)) n).bind fun n22 =>
        nk_Reader_closeTo_59 v1 n22
  else
    some (.inr n)
theorem fb_Reader_closeTo_0 {w y : Prop} {g : g_S} {n : NS} {m : YS} (hw : w) {xv1 : Int32} {v1 : Int} (ev1 : xv1 = Int32.ofInt v1) (rv1 : inR v1) (hR : RC w y g n m) : Rf (RS (fun a b => RC w y a b m) (fun a b => RC w y a b m)) (b_Reader_closeTo_0 1631 xv1 g) (nb_Reader_closeTo_0 v1 n) := by
  subst ev1
  unfold b_Reader_closeTo_0 nb_Reader_closeTo_0
  refine c_I (s := 6) hR (sK8 hR hw) rfl rfl (fun h1 => ?_)
  refine rf_ck (fun h2 => ?_)
  refine rf_lt (e_add rfl (e_n 1)) rfl h2 h1 ?_ ?_
  · refine c_S hR hw (sK8 hR hw) (by decide) (show srf 8 0 0 = some 5 from rfl) ?_
    refine c_S hR hw (sK10 hR hw) (by decide) (show srf 10 0 0 = some 6 from rfl) ?_
    refine c_S hR hw (sK8 hR hw) (by decide) (show srf 8 0 4 = some 1634 from rfl) ?_
    refine c_I (s := 6) hR (sK8 hR hw) rfl rfl (fun h7 => ?_)
    refine rf_ck (fun h8 => ?_)
    refine s_I (L := 22) hR (sA30 hR hw) rfl (lA30 hR hw) rfl (e_sub rfl (e_n 1)) h8 (fun h9 h10 => ?_)
    refine s_S (p := aNd (_)) (L := 120) hR hw (sA20 hR hw) (by decide) (lA20 hR hw) rfl rfl h10 (fun z1 z2 => srf20 z1 z2) (fun h11 => ?_)
    refine c_I (s := 0) hR (ce_nd hR hw (And.intro h11.1 (Int.le_of_lt h11.2))) rfl rfl (fun h13 => ?_)
    refine rf_eq rfl (e_n 1) h13 (show inR 1 by decide) ?_ ?_
    · exact fk_Reader_closeTo_59 hw rfl rv1 hR
    · refine rf_eq rfl (e_n 4) h13 (show inR 4 by decide) ?_ ?_
      · exact fk_Reader_closeTo_59 hw rfl rv1 hR
      · refine c_S hR hw (sK8 hR hw) (by decide) (show srf 8 0 5 = some 1635 from rfl) ?_
        refine c_I (s := 6) hR (sK8 hR hw) rfl rfl (fun h17 => ?_)
        refine rf_ck (fun h18 => ?_)
        refine s_I (L := 22) hR (sA31 hR hw) rfl (lA31 hR hw) rfl (e_sub rfl (e_n 1)) h18 (fun h19 h20 => ?_)
        refine v_c (sK8 hR hw).1 ?_
        refine rf_bind (f_Reader_tell hw (e_n 4) (show inR 4 by decide) rfl h20 hR) (fun g24 n22 hR23 => ?_)
        exact fk_Reader_closeTo_59 hw rfl rv1 hR23
  · exact rf_ok (by exact hR)
noncomputable def NL_Reader_closeTo_0 (v1 : Int) (n : NS) : Option (NS) :=
  it (fun s : NS => nb_Reader_closeTo_0 v1 s) (n)
theorem fL_Reader_closeTo_0 {w y : Prop} {g : g_S} {n : NS} {m : YS} (hw : w) {xv1 : Int32} {v1 : Int} (ev1 : xv1 = Int32.ofInt v1) (rv1 : inR v1) (hR : RC w y g n m) : Rf (fun a b => RC w y a b m) (L_Reader_closeTo_0 1631 xv1 g) (NL_Reader_closeTo_0 v1 n) := by
  subst ev1
  unfold L_Reader_closeTo_0 NL_Reader_closeTo_0
  refine rf_it (I := (fun a b => RC w y a b m)) (fun s t h => ?_) hR
  exact fb_Reader_closeTo_0 hw rfl rv1 h
theorem NL_Reader_closeTo_0_eq (v1 : Int) (n : NS) : NL_Reader_closeTo_0 v1 n = itc (nb_Reader_closeTo_0 v1 n) (fun s => NL_Reader_closeTo_0 v1 s) := it_eq2 (fun s : NS => nb_Reader_closeTo_0 v1 s) (n)
noncomputable def N_Reader_closeTo (v1 : Int) (n : NS) : Option (NS) :=
  (NL_Reader_closeTo_0 v1 n).bind <| fun n1 =>
  st (nw n1 8 0 6 v1) fun n5 =>
  some n5
theorem f_Reader_closeTo {w y : Prop} {g : g_S} {n : NS} {m : YS} (hw : w) {xv1 : Int32} {v1 : Int} (ev1 : xv1 = Int32.ofInt v1) (rv1 : inR v1) (hR : RC w y g n m) : Rf (fun a b => RC w y a b m) (M_Reader_closeTo 1631 xv1 g) (N_Reader_closeTo v1 n) := by
  subst ev1
  unfold M_Reader_closeTo N_Reader_closeTo
  refine rf_bind (fL_Reader_closeTo_0 hw rfl rv1 hR) (fun a2 n1 h => ?_)
  have hR3 : RC w y a2 n1 m := h
  refine p_I (s := 6) hR3 (sK8 hR3 hw) rfl ⟨rfl, rfl, by decide⟩ rfl rv1 (fun g7 n5 hR6 => ?_)
  exact rf_ok (by exact hR6)
noncomputable def nb_Reader_endTag_8 (v1 : Int) (v3 : Int) (v4 : Int) (n : NS) : Option ((Int) ⊕ (Int)) :=
  if 0 < v4 then
    ix v4 22 <|
    ix (n 30 0 v4) 120 <|
    if (n 7 (n 30 0 v4) 1) = v1 then
      some (.inr v4)
    else
      ck (v4 + (-1)) <|
      some (.inl (v4 + (-1)))
  else
    some (.inr v4)
theorem fb_Reader_endTag_8 {w y : Prop} {g : g_S} {n : NS} {m : YS} (hw : w) {xv1 : Int64} {v1 : Int} (ev1 : xv1 = Int64.ofInt v1) (rv1 : inL v1) {xv3 : Int32} {v3 : Int} (ev3 : xv3 = Int32.ofInt v3) (rv3 : inR v3) {xv4 : Int32} {v4 : Int} (ev4 : xv4 = Int32.ofInt v4) (rv4 : inR v4) (hR : RC w y g n m) : Rf (RS (fun a b => RI a b) (fun a b => RI a b)) (b_Reader_endTag_8 1631 xv1 xv3 xv4 g) (nb_Reader_endTag_8 v1 v3 v4 n) := by
  subst ev1
  subst ev3
  subst ev4
  unfold b_Reader_endTag_8 nb_Reader_endTag_8
  refine rf_lt (e_n 0) rfl (show inR 0 by decide) rv4 ?_ ?_
  · refine c_S hR hw (sK8 hR hw) (by decide) (show srf 8 0 0 = some 5 from rfl) ?_
    refine c_S hR hw (sK10 hR hw) (by decide) (show srf 10 0 0 = some 6 from rfl) ?_
    refine c_S hR hw (sK8 hR hw) (by decide) (show srf 8 0 4 = some 1634 from rfl) ?_
    refine s_I (L := 22) hR (sA30 hR hw) rfl (lA30 hR hw) rfl rfl rv4 (fun h5 h6 => ?_)
    refine s_S (p := aNd (_)) (L := 120) hR hw (sA20 hR hw) (by decide) (lA20 hR hw) rfl rfl h6 (fun z1 z2 => srf20 z1 z2) (fun h7 => ?_)
    refine c_L (s := 1) hR (ce_nd hR hw (And.intro h7.1 (Int.le_of_lt h7.2))) rfl rfl (fun h9 => ?_)
    refine rf_leq rfl rfl h9 rv1 ?_ ?_
    · exact rf_ok (by exact ⟨rfl, rv4⟩)
    · refine rf_ck (fun h11 => ?_)
      exact rf_ok (by exact ⟨(e_add rfl (e_m 1)), h11⟩)
  · exact rf_ok (by exact ⟨rfl, rv4⟩)
noncomputable def NL_Reader_endTag_8 (v1 : Int) (v3 : Int) (v4 : Int) (n : NS) : Option (Int) :=
  it (fun s : Int => nb_Reader_endTag_8 v1 v3 s n) (v4)
theorem fL_Reader_endTag_8 {w y : Prop} {g : g_S} {n : NS} {m : YS} (hw : w) {xv1 : Int64} {v1 : Int} (ev1 : xv1 = Int64.ofInt v1) (rv1 : inL v1) {xv3 : Int32} {v3 : Int} (ev3 : xv3 = Int32.ofInt v3) (rv3 : inR v3) {xv4 : Int32} {v4 : Int} (ev4 : xv4 = Int32.ofInt v4) (rv4 : inR v4) (hR : RC w y g n m) : Rf (fun a b => RI a b) (L_Reader_endTag_8 1631 xv1 xv3 xv4 g) (NL_Reader_endTag_8 v1 v3 v4 n) := by
  subst ev1
  subst ev3
  subst ev4
  unfold L_Reader_endTag_8 NL_Reader_endTag_8
  refine rf_it (I := (fun a b => RI a b)) (fun s t h => ?_) ⟨rfl, rv4⟩
  exact fb_Reader_endTag_8 hw rfl rv1 rfl rv3 h.1 h.2 hR
theorem NL_Reader_endTag_8_eq (v1 : Int) (v3 : Int) (v4 : Int) (n : NS) : NL_Reader_endTag_8 v1 v3 v4 n = itc (nb_Reader_endTag_8 v1 v3 v4 n) (fun s => NL_Reader_endTag_8 v1 v3 s n) := it_eq2 (fun s : Int => nb_Reader_endTag_8 v1 v3 s n) (v4)
noncomputable def nk_Reader_endTag_42 (v3 : Int) (v4 : Int) (n : NS) : Option (NS) :=
  if v4 = 0 then
    (N_Reader_tell 3 v3 n).bind fun n3 =>
    some n3
  else
    (N_Reader_closeTo v4 n).bind fun n8 =>
    some n8
theorem fk_Reader_endTag_42 {w y : Prop} {g : g_S} {n : NS} {m : YS} (hw : w) {xv3 : Int32} {v3 : Int} (ev3 : xv3 = Int32.ofInt v3) (rv3 : inR v3) {xv4 : Int32} {v4 : Int} (ev4 : xv4 = Int32.ofInt v4) (rv4 : inR v4) (hR : RC w y g n m) : Rf (fun a b => RC w y a b m) (k_Reader_endTag_42 1631 xv3 xv4 g) (nk_Reader_endTag_42 v3 v4 n) := by
  subst ev3
  subst ev4
  unfold k_Reader_endTag_42 nk_Reader_endTag_42
  refine rf_eq rfl (e_n 0) rv4 (show inR 0 by decide) ?_ ?_
  · refine v_c (sK8 hR hw).1 ?_
    refine rf_bind (f_Reader_tell hw (e_n 3) (show inR 3 by decide) rfl rv3 hR) (fun g5 n3 hR4 => ?_)
    exact rf_ok (by exact hR4)
  · refine v_c (sK8 hR hw).1 ?_
    refine rf_bind (f_Reader_closeTo hw rfl rv4 hR) (fun g10 n8 hR9 => ?_)
    exact rf_ok (by exact hR9)
noncomputable def N_Reader_endTag (v1 : Int) (v3 : Int) (n : NS) : Option (NS) :=
  ck ((n 8 0 6) - 1) <|
  (NL_Reader_endTag_8 v1 v3 ((n 8 0 6) - 1) n).bind <| fun z3 =>
  nk_Reader_endTag_42 v3 z3 n
theorem f_Reader_endTag {w y : Prop} {g : g_S} {n : NS} {m : YS} (hw : w) {xv1 : Int64} {v1 : Int} (ev1 : xv1 = Int64.ofInt v1) (rv1 : inL v1) {xv3 : Int32} {v3 : Int} (ev3 : xv3 = Int32.ofInt v3) (rv3 : inR v3) (hR : RC w y g n m) : Rf (fun a b => RC w y a b m) (M_Reader_endTag 1631 xv1 xv3 g) (N_Reader_endTag v1 v3 n) := by
  subst ev1
  subst ev3
  unfold M_Reader_endTag N_Reader_endTag
  refine c_I (s := 6) hR (sK8 hR hw) rfl rfl (fun h1 => ?_)
  refine rf_ck (fun h2 => ?_)
  refine rf_bind (fL_Reader_endTag_8 hw rfl rv1 rfl rv3 (e_sub rfl (e_n 1)) h2 hR) (fun a4 z3 h => ?_)
  obtain ⟨rfl, r5⟩ := (show RI a4 z3 from h)
  exact fk_Reader_endTag_42 hw rfl rv3 rfl r5 hR
noncomputable def nb_Tree_tagOf_2 (v1 : Int) (v3 : Int) (n : NS) : Option ((Int) ⊕ (Int)) :=
  if v3 < 16 then
    ix v3 16 <|
    if (n 21 0 v3) = v1 then
      some (.inr v3)
    else
      ck (v3 + 1) <|
      some (.inl (v3 + 1))
  else
    some (.inr v3)
theorem fb_Tree_tagOf_2 {w y : Prop} {g : g_S} {n : NS} {m : YS} (hw : w) {xv1 : Int64} {v1 : Int} (ev1 : xv1 = Int64.ofInt v1) (rv1 : inL v1) {xv3 : Int32} {v3 : Int} (ev3 : xv3 = Int32.ofInt v3) (rv3 : inR v3) (hR : RC w y g n m) : Rf (RS (fun a b => RI a b) (fun a b => RI a b)) (b_Tree_tagOf_2 5 xv1 xv3 g) (nb_Tree_tagOf_2 v1 v3 n) := by
  subst ev1
  subst ev3
  unfold b_Tree_tagOf_2 nb_Tree_tagOf_2
  refine rf_lt rfl (e_n 16) rv3 (show inR 16 by decide) ?_ ?_
  · refine c_S hR hw (sK10 hR hw) (by decide) (show srf 10 0 1 = some 7 from rfl) ?_
    refine s_L (L := 16) hR (sA21 hR hw) (lA21 hR hw) rfl rfl rv3 (fun h3 h4 => ?_)
    refine rf_leq rfl rfl h4 rv1 ?_ ?_
    · exact rf_ok (by exact ⟨rfl, rv3⟩)
    · refine rf_ck (fun h6 => ?_)
      exact rf_ok (by exact ⟨(e_add rfl (e_n 1)), h6⟩)
  · exact rf_ok (by exact ⟨rfl, rv3⟩)
noncomputable def NL_Tree_tagOf_2 (v1 : Int) (v3 : Int) (n : NS) : Option (Int) :=
  it (fun s : Int => nb_Tree_tagOf_2 v1 s n) (v3)
theorem fL_Tree_tagOf_2 {w y : Prop} {g : g_S} {n : NS} {m : YS} (hw : w) {xv1 : Int64} {v1 : Int} (ev1 : xv1 = Int64.ofInt v1) (rv1 : inL v1) {xv3 : Int32} {v3 : Int} (ev3 : xv3 = Int32.ofInt v3) (rv3 : inR v3) (hR : RC w y g n m) : Rf (fun a b => RI a b) (L_Tree_tagOf_2 5 xv1 xv3 g) (NL_Tree_tagOf_2 v1 v3 n) := by
  subst ev1
  subst ev3
  unfold L_Tree_tagOf_2 NL_Tree_tagOf_2
  refine rf_it (I := (fun a b => RI a b)) (fun s t h => ?_) ⟨rfl, rv3⟩
  exact fb_Tree_tagOf_2 hw rfl rv1 h.1 h.2 hR
theorem NL_Tree_tagOf_2_eq (v1 : Int) (v3 : Int) (n : NS) : NL_Tree_tagOf_2 v1 v3 n = itc (nb_Tree_tagOf_2 v1 v3 n) (fun s => NL_Tree_tagOf_2 v1 s n) := it_eq2 (fun s : Int => nb_Tree_tagOf_2 v1 s n) (v3)
noncomputable def N_Tree_tagOf (v1 : Int) (n : NS) : Option (Int) :=
  (NL_Tree_tagOf_2 v1 0 n).bind <| fun z1 =>
  some z1
theorem f_Tree_tagOf {w y : Prop} {g : g_S} {n : NS} {m : YS} (hw : w) {xv1 : Int64} {v1 : Int} (ev1 : xv1 = Int64.ofInt v1) (rv1 : inL v1) (hR : RC w y g n m) : Rf (fun a b => RI a b) (M_Tree_tagOf 5 xv1 g) (N_Tree_tagOf v1 n) := by
  subst ev1
  unfold M_Tree_tagOf N_Tree_tagOf
  refine rf_bind (fL_Tree_tagOf_2 hw rfl rv1 (e_n 0) (show inR 0 by decide) hR) (fun a2 z1 h => ?_)
  obtain ⟨rfl, r3⟩ := (show RI a2 z1 from h)
  exact rf_ok (by exact ⟨rfl, r3⟩)
noncomputable def nb_Reader_openOf_7 (v1 : Int) (v2 : Int) (n : NS) : Option ((Int) ⊕ (Int)) :=
  if 0 < v2 then
    ix v2 22 <|
    ix (n 30 0 v2) 120 <|
    if (n 7 (n 30 0 v2) 0) = v1 then
      some (.inr v2)
    else
      ck (v2 + (-1)) <|
      some (.inl (v2 + (-1)))
  else
    some (.inr v2)
theorem fb_Reader_openOf_7 {w y : Prop} {g : g_S} {n : NS} {m : YS} (hw : w) {xv1 : Int32} {v1 : Int} (ev1 : xv1 = Int32.ofInt v1) (rv1 : inR v1) {xv2 : Int32} {v2 : Int} (ev2 : xv2 = Int32.ofInt v2) (rv2 : inR v2) (hR : RC w y g n m) : Rf (RS (fun a b => RI a b) (fun a b => RI a b)) (b_Reader_openOf_7 1631 xv1 xv2 g) (nb_Reader_openOf_7 v1 v2 n) := by
  subst ev1
  subst ev2
  unfold b_Reader_openOf_7 nb_Reader_openOf_7
  refine rf_lt (e_n 0) rfl (show inR 0 by decide) rv2 ?_ ?_
  · refine c_S hR hw (sK8 hR hw) (by decide) (show srf 8 0 0 = some 5 from rfl) ?_
    refine c_S hR hw (sK10 hR hw) (by decide) (show srf 10 0 0 = some 6 from rfl) ?_
    refine c_S hR hw (sK8 hR hw) (by decide) (show srf 8 0 4 = some 1634 from rfl) ?_
    refine s_I (L := 22) hR (sA30 hR hw) rfl (lA30 hR hw) rfl rfl rv2 (fun h5 h6 => ?_)
    refine s_S (p := aNd (_)) (L := 120) hR hw (sA20 hR hw) (by decide) (lA20 hR hw) rfl rfl h6 (fun z1 z2 => srf20 z1 z2) (fun h7 => ?_)
    refine c_I (s := 0) hR (ce_nd hR hw (And.intro h7.1 (Int.le_of_lt h7.2))) rfl rfl (fun h9 => ?_)
    refine rf_eq rfl rfl h9 rv1 ?_ ?_
    · exact rf_ok (by exact ⟨rfl, rv2⟩)
    · refine rf_ck (fun h11 => ?_)
      exact rf_ok (by exact ⟨(e_add rfl (e_m 1)), h11⟩)
  · exact rf_ok (by exact ⟨rfl, rv2⟩)
noncomputable def NL_Reader_openOf_7 (v1 : Int) (v2 : Int) (n : NS) : Option (Int) :=
  it (fun s : Int => nb_Reader_openOf_7 v1 s n) (v2)
theorem fL_Reader_openOf_7 {w y : Prop} {g : g_S} {n : NS} {m : YS} (hw : w) {xv1 : Int32} {v1 : Int} (ev1 : xv1 = Int32.ofInt v1) (rv1 : inR v1) {xv2 : Int32} {v2 : Int} (ev2 : xv2 = Int32.ofInt v2) (rv2 : inR v2) (hR : RC w y g n m) : Rf (fun a b => RI a b) (L_Reader_openOf_7 1631 xv1 xv2 g) (NL_Reader_openOf_7 v1 v2 n) := by
  subst ev1
  subst ev2
  unfold L_Reader_openOf_7 NL_Reader_openOf_7
  refine rf_it (I := (fun a b => RI a b)) (fun s t h => ?_) ⟨rfl, rv2⟩
  exact fb_Reader_openOf_7 hw rfl rv1 h.1 h.2 hR
theorem NL_Reader_openOf_7_eq (v1 : Int) (v2 : Int) (n : NS) : NL_Reader_openOf_7 v1 v2 n = itc (nb_Reader_openOf_7 v1 v2 n) (fun s => NL_Reader_openOf_7 v1 s n) := it_eq2 (fun s : Int => nb_Reader_openOf_7 v1 s n) (v2)
noncomputable def N_Reader_openOf (v1 : Int) (n : NS) : Option (Int) :=
  ck ((n 8 0 6) - 1) <|
  (NL_Reader_openOf_7 v1 ((n 8 0 6) - 1) n).bind <| fun z3 =>
  some z3
theorem f_Reader_openOf {w y : Prop} {g : g_S} {n : NS} {m : YS} (hw : w) {xv1 : Int32} {v1 : Int} (ev1 : xv1 = Int32.ofInt v1) (rv1 : inR v1) (hR : RC w y g n m) : Rf (fun a b => RI a b) (M_Reader_openOf 1631 xv1 g) (N_Reader_openOf v1 n) := by
  subst ev1
  unfold M_Reader_openOf N_Reader_openOf
  refine c_I (s := 6) hR (sK8 hR hw) rfl rfl (fun h1 => ?_)
  refine rf_ck (fun h2 => ?_)
  refine rf_bind (fL_Reader_openOf_7 hw rfl rv1 (e_sub rfl (e_n 1)) h2 hR) (fun a4 z3 h => ?_)
  obtain ⟨rfl, r5⟩ := (show RI a4 z3 from h)
  exact rf_ok (by exact ⟨rfl, r5⟩)
noncomputable def nk_Reader_closeTag_15 (v2 : Int) (n : NS) : Option (Int × NS) :=
  if 0 < v2 then
    some (1, n)
  else
    some (0, n)
theorem fk_Reader_closeTag_15 {w y : Prop} {g : g_S} {n : NS} {m : YS} (hw : w) {xv2 : Int32} {v2 : Int} (ev2 : xv2 = Int32.ofInt v2) (rv2 : inR v2) (hR : RC w y g n m) : Rf (fun a b => RZ a.1 b.1 ∧ RC w y a.2 b.2 m) (k_Reader_closeTag_15 xv2 g) (nk_Reader_closeTag_15 v2 n) := by
  subst ev2
  unfold k_Reader_closeTag_15 nk_Reader_closeTag_15
  refine rf_lt (e_n 0) rfl (show inR 0 by decide) rv2 ?_ ?_
  · exact rf_ok (by exact ⟨⟨(e_n 1), (.inr rfl)⟩, hR⟩)
  · exact rf_ok (by exact ⟨⟨(e_n 0), (.inl rfl)⟩, hR⟩)
noncomputable def N_Reader_closeTag (v1 : Int) (n : NS) : Option (Int × NS) :=
  (N_Reader_openOf v1 n).bind fun z2 =>
  if 0 < z2 then
    (N_Reader_closeTo z2 n).bind fun n7 =>
    nk_Reader_closeTag_15 z2 n7
  else
    nk_Reader_closeTag_15 z2 n
theorem f_Reader_closeTag {w y : Prop} {g : g_S} {n : NS} {m : YS} (hw : w) {xv1 : Int32} {v1 : Int} (ev1 : xv1 = Int32.ofInt v1) (rv1 : inR v1) (hR : RC w y g n m) : Rf (fun a b => RZ a.1 b.1 ∧ RC w y a.2 b.2 m) (M_Reader_closeTag 1631 xv1 g) (N_Reader_closeTag v1 n) := by
  subst ev1
  unfold M_Reader_closeTag N_Reader_closeTag
  refine v_c (sK8 hR hw).1 ?_
  refine rf_bind (f_Reader_openOf hw rfl rv1 hR) (fun a4 z2 h => ?_)
  obtain ⟨rfl, r3⟩ := h
  refine rf_lt (e_n 0) rfl (show inR 0 by decide) r3 ?_ ?_
  · refine v_c (sK8 hR hw).1 ?_
    refine rf_bind (f_Reader_closeTo hw rfl r3 hR) (fun g9 n7 hR8 => ?_)
    exact fk_Reader_closeTag_15 hw rfl r3 hR8
  · exact fk_Reader_closeTag_15 hw rfl r3 hR
noncomputable def nb_Node_copyAttributes_10 (v0 : Int) (v1 : Int) (v2 : Int) (n : NS) : Option ((Int × NS) ⊕ (NS)) :=
  if v2 < (n 7 v0 12) then
    ix v2 4 <|
    ix v2 4 <|
    st (nw n 18 v0 v2 (n 18 v1 v2)) fun n8 =>
    ix v2 4 <|
    (N_Bytes_clear (5 * v0 + 1 + v2) n8).bind fun n15 =>
    ix v2 4 <|
    ix v2 4 <|
    nn (n15 4 (5 * v1 + 1 + v2) 1) <|
    ix v2 4 <|
    (N_Bytes_addAll (5 * v0 + 1 + v2) (n15 4 (5 * v1 + 1 + v2) 1) 0 (n15 4 (5 * v1 + 1 + v2) 2) n15).bind fun n30 =>
    ck (v2 + 1) <|
    some (.inl (v2 + 1, n30))
  else
    some (.inr n)
theorem fb_Node_copyAttributes_10 {w y : Prop} {g : g_S} {n : NS} {m : YS} (hw : w) {xv0 : Nat} {v0 : Int} (ev0 : xv0 = aNd v0) (rv0 : 0 ≤ v0 ∧ v0 ≤ 120) {xv1 : Nat} {v1 : Int} (ev1 : xv1 = aNd v1) (rv1 : 0 ≤ v1 ∧ v1 ≤ 120) {xv2 : Int32} {v2 : Int} (ev2 : xv2 = Int32.ofInt v2) (rv2 : inR v2) (hR : RC w y g n m) : Rf (RS (fun a b => RI a.1 b.1 ∧ RC w y a.2 b.2 m) (fun a b => RC w y a b m)) (b_Node_copyAttributes_10 xv0 xv1 xv2 g) (nb_Node_copyAttributes_10 v0 v1 v2 n) := by
  subst ev0
  subst ev1
  subst ev2
  unfold b_Node_copyAttributes_10 nb_Node_copyAttributes_10
  refine c_I (s := 12) hR (ce_nd hR hw rv0) rfl rfl (fun h1 => ?_)
  refine rf_lt rfl rfl rv2 h1 ?_ ?_
  · refine c_S (p := _) hR hw (ce_nd hR hw rv0) (Nat.lt_trans (nd_lt rv0).1 (by decide)) rfl ?_
    refine c_S (p := _) hR hw (ce_nd hR hw rv1) (Nat.lt_trans (nd_lt rv1).1 (by decide)) rfl ?_
    refine s_L (L := 4) hR (ce_nm hR hw rv1) (ln_nm hR hw rv1) rfl rfl rv2 (fun h5 h6 => ?_)
    refine t_L (L := 4) hR (ce_nm hR hw rv0) (ln_nm hR hw rv0) rfl rfl rv2 rfl h6 (fun g10 n8 hR9 => ?_)
    refine c_S (p := _) hR9 hw (ce_nd hR9 hw rv0) (Nat.lt_trans (nd_lt rv0).1 (by decide)) rfl ?_
    refine s_S (p := aBy (5 * (_) + 1 + _)) (L := 4) hR9 hw (ce_vs hR9 hw rv0) (sty_nd0 rv0 4 (by decide)).2.2 (ln_vs hR9 hw rv0) rfl rfl rv2 (fun z1 z2 => srf19 z1 z2) (fun h12 => ?_)
    refine v_c (ce_by hR9 hw (by19 rv0 h12)).1 ?_
    refine rf_bind (f_Bytes_clear hw rfl (by19 rv0 h12) hR9) (fun g17 n15 hR16 => ?_)
    refine c_S (p := _) hR16 hw (ce_nd hR16 hw rv0) (Nat.lt_trans (nd_lt rv0).1 (by decide)) rfl ?_
    refine s_S (p := aBy (5 * (_) + 1 + _)) (L := 4) hR16 hw (ce_vs hR16 hw rv0) (sty_nd0 rv0 4 (by decide)).2.2 (ln_vs hR16 hw rv0) rfl rfl rv2 (fun z1 z2 => srf19 z1 z2) (fun h19 => ?_)
    refine c_S (p := _) hR16 hw (ce_nd hR16 hw rv1) (Nat.lt_trans (nd_lt rv1).1 (by decide)) rfl ?_
    refine s_S (p := aBy (5 * (_) + 1 + _)) (L := 4) hR16 hw (ce_vs hR16 hw rv1) (sty_nd0 rv1 4 (by decide)).2.2 (ln_vs hR16 hw rv1) rfl rfl rv2 (fun z1 z2 => srf19 z1 z2) (fun h22 => ?_)
    refine c_D (s := 1) hR16 (ce_by hR16 hw (by19 rv1 h22)) rfl rfl rfl (fun h24 => ?_)
    refine c_S (p := _) hR16 hw (ce_nd hR16 hw rv1) (Nat.lt_trans (nd_lt rv1).1 (by decide)) rfl ?_
    refine s_S (p := aBy (5 * (_) + 1 + _)) (L := 4) hR16 hw (ce_vs hR16 hw rv1) (sty_nd0 rv1 4 (by decide)).2.2 (ln_vs hR16 hw rv1) rfl rfl rv2 (fun z1 z2 => srf19 z1 z2) (fun h26 => ?_)
    refine c_I (s := 2) hR16 (ce_by hR16 hw (by19 rv1 h26)) rfl rfl (fun h28 => ?_)
    refine v_c (ce_by hR16 hw (by19 rv0 h19)).1 ?_
    refine rf_bind (f_Bytes_addAll hw rfl (by19 rv0 h19) rfl h24 (e_n 0) (show inR 0 by decide) rfl h28 hR16) (fun g32 n30 hR31 => ?_)
    refine rf_ck (fun h33 => ?_)
    exact rf_ok (by exact ⟨⟨(e_add rfl (e_n 1)), h33⟩, hR31⟩)
  · exact rf_ok (by exact hR)
noncomputable def NL_Node_copyAttributes_10 (v0 : Int) (v1 : Int) (v2 : Int) (n : NS) : Option (NS) :=
  it (fun s : Int × NS => nb_Node_copyAttributes_10 v0 v1 s.1 s.2) (v2, n)
theorem fL_Node_copyAttributes_10 {w y : Prop} {g : g_S} {n : NS} {m : YS} (hw : w) {xv0 : Nat} {v0 : Int} (ev0 : xv0 = aNd v0) (rv0 : 0 ≤ v0 ∧ v0 ≤ 120) {xv1 : Nat} {v1 : Int} (ev1 : xv1 = aNd v1) (rv1 : 0 ≤ v1 ∧ v1 ≤ 120) {xv2 : Int32} {v2 : Int} (ev2 : xv2 = Int32.ofInt v2) (rv2 : inR v2) (hR : RC w y g n m) : Rf (fun a b => RC w y a b m) (L_Node_copyAttributes_10 xv0 xv1 xv2 g) (NL_Node_copyAttributes_10 v0 v1 v2 n) := by
  subst ev0
  subst ev1
  subst ev2
  unfold L_Node_copyAttributes_10 NL_Node_copyAttributes_10
  refine rf_it (I := (fun a b => RI a.1 b.1 ∧ RC w y a.2 b.2 m)) (fun s t h => ?_) ⟨⟨rfl, rv2⟩, hR⟩
  exact fb_Node_copyAttributes_10 hw rfl rv0 rfl rv1 h.1.1 h.1.2 h.2
theorem NL_Node_copyAttributes_10_eq (v0 : Int) (v1 : Int) (v2 : Int) (n : NS) : NL_Node_copyAttributes_10 v0 v1 v2 n = itc (nb_Node_copyAttributes_10 v0 v1 v2 n) (fun s => NL_Node_copyAttributes_10 v0 v1 s.1 s.2) := it_eq2 (fun s : Int × NS => nb_Node_copyAttributes_10 v0 v1 s.1 s.2) (v2, n)
noncomputable def N_Node_copyAttributes (v0 : Int) (v1 : Int) (n : NS) : Option (NS) :=
  st (nw n 7 v0 12 (n 7 v1 12)) fun n3 =>
  (NL_Node_copyAttributes_10 v0 v1 0 n3).bind <| fun n6 =>
  some n6
theorem f_Node_copyAttributes {w y : Prop} {g : g_S} {n : NS} {m : YS} (hw : w) {xv0 : Nat} {v0 : Int} (ev0 : xv0 = aNd v0) (rv0 : 0 ≤ v0 ∧ v0 ≤ 120) {xv1 : Nat} {v1 : Int} (ev1 : xv1 = aNd v1) (rv1 : 0 ≤ v1 ∧ v1 ≤ 120) (hR : RC w y g n m) : Rf (fun a b => RC w y a b m) (M_Node_copyAttributes xv0 xv1 g) (N_Node_copyAttributes v0 v1 n) := by
  subst ev0
  subst ev1
  unfold M_Node_copyAttributes N_Node_copyAttributes
  refine c_I (s := 12) hR (ce_nd hR hw rv1) rfl rfl (fun h1 => ?_)
  refine p_I (s := 12) hR (ce_nd hR hw rv0) rfl ⟨rfl, rfl, by decide⟩ rfl h1 (fun g5 n3 hR4 => ?_)
  refine rf_bind (fL_Node_copyAttributes_10 hw rfl rv0 rfl rv1 (e_n 0) (show inR 0 by decide) hR4) (fun a7 n6 h => ?_)
  have hR8 : RC w y a7 n6 m := h
  exact rf_ok (by exact hR8)
noncomputable def N_Node_setValue (v0 : Int) (v1 : Int) (v2 : Int) (v3 : Int) (n : NS) : Option (NS) :=
  (N_Bytes_clear (5 * v0) n).bind fun n3 =>
  ck (v2 + 24) <|
  (N_Bytes_addAll (5 * v0) v1 v2 (min v3 (v2 + 24)) n3).bind fun n10 =>
  some n10
theorem f_Node_setValue {w y : Prop} {g : g_S} {n : NS} {m : YS} (hw : w) {xv0 : Nat} {v0 : Int} (ev0 : xv0 = aNd v0) (rv0 : 0 ≤ v0 ∧ v0 ≤ 120) {xv1 : Nat} {v1 : Int} (ev1 : xv1 = Int.toNat v1) (rv1 : 0 ≤ v1 ∧ lc (Int.toNat v1) = (99, v1)) {xv2 : Int32} {v2 : Int} (ev2 : xv2 = Int32.ofInt v2) (rv2 : inR v2) {xv3 : Int32} {v3 : Int} (ev3 : xv3 = Int32.ofInt v3) (rv3 : inR v3) (hR : RC w y g n m) : Rf (fun a b => RC w y a b m) (M_Node_setValue xv0 xv1 xv2 xv3 g) (N_Node_setValue v0 v1 v2 v3 n) := by
  subst ev0
  subst ev1
  subst ev2
  subst ev3
  unfold M_Node_setValue N_Node_setValue
  refine c_S (p := _) hR hw (ce_nd hR hw rv0) (Nat.lt_trans (nd_lt rv0).1 (by decide)) rfl ?_
  refine v_c (ce_by hR hw (by5 rv0)).1 ?_
  refine rf_bind (f_Bytes_clear hw rfl (by5 rv0) hR) (fun g5 n3 hR4 => ?_)
  refine c_S (p := _) hR4 hw (ce_nd hR4 hw rv0) (Nat.lt_trans (nd_lt rv0).1 (by decide)) rfl ?_
  refine rf_ck (fun h7 => ?_)
  refine v_c (ce_by hR4 hw (by5 rv0)).1 ?_
  refine rf_bind (f_Bytes_addAll hw rfl (by5 rv0) rfl rv1 rfl rv2 (e_mn rfl (e_add rfl (e_n 24)) rv3 h7) (min_r rv3 h7) hR4) (fun g12 n10 hR11 => ?_)
  exact rf_ok (by exact hR11)
noncomputable def N_Bytes_is (v0 : Int) (v1 : Nat) (n : NS) : Option (Int) :=
  (sN v1).bind fun z3 =>
  if (n 4 v0 2) = z3 then
    nn (n 4 v0 1) <|
    (N_Bytes_stands v1 (n 4 v0 1) 0 (n 4 v0 2) n).bind fun z9 =>
    if z9 = 0 then
      some 0
    else
      some 1
  else
    some 0
theorem f_Bytes_is {w y : Prop} {g : g_S} {n : NS} {m : YS} (hw : w) {xv0 : Nat} {v0 : Int} (ev0 : xv0 = aBy v0) (rv0 : 0 ≤ v0 ∧ v0 ≤ 631) {v1 : Nat} (hR : RC w y g n m) : Rf (fun a b => RZ a b) (M_Bytes_is xv0 v1 g) (N_Bytes_is v0 v1 n) := by
  subst ev0
  unfold M_Bytes_is N_Bytes_is
  refine c_I (s := 2) hR (ce_by hR hw rv0) rfl rfl (fun h1 => ?_)
  refine t_N (fun z3 r4 => ?_)
  refine rf_eq rfl rfl h1 r4 ?_ ?_
  · refine c_D (s := 1) hR (ce_by hR hw rv0) rfl rfl rfl (fun h6 => ?_)
    refine c_I (s := 2) hR (ce_by hR hw rv0) rfl rfl (fun h7 => ?_)
    refine rf_bind (f_Bytes_stands rfl h6 (e_n 0) (show inR 0 by decide) rfl h7 hR) (fun a11 z9 h => ?_)
    obtain ⟨rfl, r10⟩ := h
    refine rf_eq rfl (e_n 0) (inZ.r r10) (show inR 0 by decide) ?_ ?_
    · exact rf_ok (by exact ⟨(e_n 0), (.inl rfl)⟩)
    · exact rf_ok (by exact ⟨(e_n 1), (.inr rfl)⟩)
  · exact rf_ok (by exact ⟨(e_n 0), (.inl rfl)⟩)
noncomputable def nk_Node_startInput_84 (w0 : Int) (w1 : Int) (n : NS) : Option (NS) :=
  cz w0 <|
  st (nw n 7 w1 16 w0) fun n3 =>
  some n3
theorem fk_Node_startInput_84 {w y : Prop} {g : g_S} {n : NS} {m : YS} (hw : w) {xw0 : Int32} {w0 : Int} (ew0 : xw0 = Int32.ofInt w0) (rw0 : inR w0) {xw1 : Nat} {w1 : Int} (ew1 : xw1 = aNd w1) (rw1 : 0 ≤ w1 ∧ w1 ≤ 120) (hR : RC w y g n m) : Rf (fun a b => RC w y a b m) (k_Node_startInput_84 xw0 xw1 g) (nk_Node_startInput_84 w0 w1 n) := by
  subst ew0
  subst ew1
  unfold k_Node_startInput_84 nk_Node_startInput_84
  refine rf_cz (fun h2 => ?_)
  refine p_Z (s := 16) hR (ce_nd hR hw rw1) rfl ⟨rfl, by decide⟩ rfl h2 (fun g5 n3 hR4 => ?_)
  exact rf_ok (by exact hR4)
noncomputable def nk_Node_startInput_83 (w0 : Int) (n : NS) : Option (NS) :=
  nk_Node_startInput_84 0 w0 n
theorem fk_Node_startInput_83 {w y : Prop} {g : g_S} {n : NS} {m : YS} (hw : w) {xw0 : Nat} {w0 : Int} (ew0 : xw0 = aNd w0) (rw0 : 0 ≤ w0 ∧ w0 ≤ 120) (hR : RC w y g n m) : Rf (fun a b => RC w y a b m) (k_Node_startInput_83 xw0 g) (nk_Node_startInput_83 w0 n) := by
  subst ew0
  unfold k_Node_startInput_83 nk_Node_startInput_83
  exact fk_Node_startInput_84 hw (e_n 0) (show inR 0 by decide) rfl rw0 hR
noncomputable def nk_Node_startInput_56 (v0 : Int) (w0 : Int) (w1 : Int) (n : NS) : Option (NS) :=
  cz w0 <|
  st (nw n 7 w1 15 w0) fun n3 =>
  if (n3 7 v0 15) = 0 then
    nk_Node_startInput_83 v0 n3
  else
    (N_Bytes_pack_1 1000018 n3).bind fun z10 =>
    (N_Node_find v0 z10 n3).bind fun z14 =>
    if z14 < 0 then
      nk_Node_startInput_83 v0 n3
    else
      nk_Node_startInput_84 1 v0 n3
theorem fk_Node_startInput_56 {w y : Prop} {g : g_S} {n : NS} {m : YS} (hw : w) {xv0 : Nat} {v0 : Int} (ev0 : xv0 = aNd v0) (rv0 : 0 ≤ v0 ∧ v0 ≤ 120) {xw0 : Int32} {w0 : Int} (ew0 : xw0 = Int32.ofInt w0) (rw0 : inR w0) {xw1 : Nat} {w1 : Int} (ew1 : xw1 = aNd w1) (rw1 : 0 ≤ w1 ∧ w1 ≤ 120) (hR : RC w y g n m) : Rf (fun a b => RC w y a b m) (k_Node_startInput_56 xv0 xw0 xw1 g) (nk_Node_startInput_56 v0 w0 w1 n) := by
  subst ev0
  subst ew0
  subst ew1
  unfold k_Node_startInput_56 nk_Node_startInput_56
  refine rf_cz (fun h2 => ?_)
  refine p_Z (s := 15) hR (ce_nd hR hw rw1) rfl ⟨rfl, by decide⟩ rfl h2 (fun g5 n3 hR4 => ?_)
  refine c_Z (s := 15) hR4 (ce_nd hR4 hw rv0) rfl rfl rfl (fun h6 => ?_)
  refine rf_eq rfl (e_n 0) (inZ.r h6) (show inR 0 by decide) ?_ ?_
  · exact fk_Node_startInput_83 hw rfl rv0 hR4
  · refine rf_bind (f_Bytes_pack_1 hR4) (fun a12 z10 h => ?_)
    obtain ⟨rfl, r11⟩ := h
    refine v_c (ce_nd hR4 hw rv0).1 ?_
    refine rf_bind (f_Node_find hw rfl rv0 rfl r11 hR4) (fun a16 z14 h => ?_)
    obtain ⟨rfl, r15⟩ := h
    refine rf_oy (fun h17 => ?_) (fun h17 => ?_)
    · exact fk_Node_startInput_84 hw (e_n 1) (show inR 1 by decide) rfl rv0 hR4
    · exact fk_Node_startInput_83 hw rfl rv0 hR4
noncomputable def nk_Node_startInput_55 (v0 : Int) (w0 : Int) (n : NS) : Option (NS) :=
  nk_Node_startInput_56 v0 0 w0 n
theorem fk_Node_startInput_55 {w y : Prop} {g : g_S} {n : NS} {m : YS} (hw : w) {xv0 : Nat} {v0 : Int} (ev0 : xv0 = aNd v0) (rv0 : 0 ≤ v0 ∧ v0 ≤ 120) {xw0 : Nat} {w0 : Int} (ew0 : xw0 = aNd w0) (rw0 : 0 ≤ w0 ∧ w0 ≤ 120) (hR : RC w y g n m) : Rf (fun a b => RC w y a b m) (k_Node_startInput_55 xv0 xw0 g) (nk_Node_startInput_55 v0 w0 n) := by
  subst ev0
  subst ew0
  unfold k_Node_startInput_55 nk_Node_startInput_55
  exact fk_Node_startInput_56 hw rfl rv0 (e_n 0) (show inR 0 by decide) rfl rw0 hR
noncomputable def nk_Node_startInput_27 (v0 : Int) (n : NS) : Option (NS) :=
  (N_Bytes_pack_1 1000016 n).bind fun z3 =>
  (N_Node_find v0 z3 n).bind fun z7 =>
  if z7 < 0 then
    nk_Node_startInput_55 v0 v0 n
  else
    (N_Bytes_is z7 1000017 n).bind fun z14 =>
    if z14 = 0 then
      nk_Node_startInput_55 v0 v0 n
    else
      nk_Node_startInput_56 v0 1 v0 n
theorem fk_Node_startInput_27 {w y : Prop} {g : g_S} {n : NS} {m : YS} (hw : w) {xv0 : Nat} {v0 : Int} (ev0 : xv0 = aNd v0) (rv0 : 0 ≤ v0 ∧ v0 ≤ 120) (hR : RC w y g n m) : Rf (fun a b => RC w y a b m) (k_Node_startInput_27 xv0 g) (nk_Node_startInput_27 v0 n) := by
  subst ev0
  unfold k_Node_startInput_27 nk_Node_startInput_27
  refine rf_bind (f_Bytes_pack_1 hR) (fun a5 z3 h => ?_)
  obtain ⟨rfl, r4⟩ := h
  refine v_c (ce_nd hR hw rv0).1 ?_
  refine rf_bind (f_Node_find hw rfl rv0 rfl r4 hR) (fun a9 z7 h => ?_)
  obtain ⟨rfl, r8⟩ := h
  refine rf_oy (fun h10 => ?_) (fun h10 => ?_)
  · refine v_c (ce_by hR hw (And.intro h10 r8)).1 ?_
    refine rf_bind (f_Bytes_is hw rfl (And.intro h10 r8) hR) (fun a16 z14 h => ?_)
    obtain ⟨rfl, r15⟩ := h
    refine rf_eq rfl (e_n 0) (inZ.r r15) (show inR 0 by decide) ?_ ?_
    · exact fk_Node_startInput_55 hw rfl rv0 rfl rv0 hR
    · exact fk_Node_startInput_56 hw rfl rv0 (e_n 1) (show inR 1 by decide) rfl rv0 hR
  · exact fk_Node_startInput_55 hw rfl rv0 rfl rv0 hR
noncomputable def N_Node_startInput (v0 : Int) (n : NS) : Option (NS) :=
  (N_Bytes_pack_1 1000015 n).bind fun z3 =>
  (N_Node_find v0 z3 n).bind fun z7 =>
  if z7 < 0 then
    nk_Node_startInput_27 v0 n
  else
    nn (n 4 z7 1) <|
    (N_Node_setValue v0 (n 4 z7 1) 0 (n 4 z7 2) n).bind fun n15 =>
    nk_Node_startInput_27 v0 n15
theorem f_Node_startInput {w y : Prop} {g : g_S} {n : NS} {m : YS} (hw : w) {xv0 : Nat} {v0 : Int} (ev0 : xv0 = aNd v0) (rv0 : 0 ≤ v0 ∧ v0 ≤ 120) (hR : RC w y g n m) : Rf (fun a b => RC w y a b m) (M_Node_startInput xv0 g) (N_Node_startInput v0 n) := by
  subst ev0
  unfold M_Node_startInput N_Node_startInput
  refine rf_bind (f_Bytes_pack_1 hR) (fun a5 z3 h => ?_)
  obtain ⟨rfl, r4⟩ := h
  refine v_c (ce_nd hR hw rv0).1 ?_
  refine rf_bind (f_Node_find hw rfl rv0 rfl r4 hR) (fun a9 z7 h => ?_)
  obtain ⟨rfl, r8⟩ := h
  refine rf_oy (fun h10 => ?_) (fun h10 => ?_)
  · refine c_D (s := 1) hR (ce_by hR hw (And.intro h10 r8)) rfl rfl rfl (fun h12 => ?_)
    refine c_I (s := 2) hR (ce_by hR hw (And.intro h10 r8)) rfl rfl (fun h13 => ?_)
    refine v_c (ce_nd hR hw rv0).1 ?_
    refine rf_bind (f_Node_setValue hw rfl rv0 rfl h12 (e_n 0) (show inR 0 by decide) rfl h13 hR) (fun g17 n15 hR16 => ?_)
    exact fk_Node_startInput_27 hw rfl rv0 hR16
  · exact fk_Node_startInput_27 hw rfl rv0 hR
noncomputable def N_Node_isEmptyTag (v0 : Int) (n : NS) : Option (Int) :=
  if (n 7 v0 0) < 10 then
    some 0
  else
    if 13 < (n 7 v0 0) then
      some 0
    else
      some 1
theorem f_Node_isEmptyTag {w y : Prop} {g : g_S} {n : NS} {m : YS} (hw : w) {xv0 : Nat} {v0 : Int} (ev0 : xv0 = aNd v0) (rv0 : 0 ≤ v0 ∧ v0 ≤ 120) (hR : RC w y g n m) : Rf (fun a b => RZ a b) (M_Node_isEmptyTag xv0 g) (N_Node_isEmptyTag v0 n) := by
  subst ev0
  unfold M_Node_isEmptyTag N_Node_isEmptyTag
  refine c_I (s := 0) hR (ce_nd hR hw rv0) rfl rfl (fun h1 => ?_)
  refine rf_lt rfl (e_n 10) h1 (show inR 10 by decide) ?_ ?_
  · exact rf_ok (by exact ⟨(e_n 0), (.inl rfl)⟩)
  · refine c_I (s := 0) hR (ce_nd hR hw rv0) rfl rfl (fun h4 => ?_)
    refine rf_lt (e_n 13) rfl (show inR 13 by decide) h4 ?_ ?_
    · exact rf_ok (by exact ⟨(e_n 0), (.inl rfl)⟩)
    · exact rf_ok (by exact ⟨(e_n 1), (.inr rfl)⟩)
noncomputable def nk_Reader_startTag_156 (v3 : Int) (v6 : Int) (v7 : Int) (n : NS) : Option (NS) :=
  (N_Node_isEmptyTag v7 n).bind fun z2 =>
  if z2 = 0 then
    if (n 8 0 6) < 22 then
      ix (n 8 0 6) 22 <|
      st (nw n 30 0 (n 8 0 6) v6) fun n13 =>
      ix (n13 8 0 6) 22 <|
      st (nw n13 31 0 (n13 8 0 6) v3) fun n19 =>
      ck ((n19 8 0 6) + 1) <|
      st (nw n19 8 0 6 ((n19 8 0 6) + 1)) fun n25 =>
      some n25
    else
      some n
  else
    some n
theorem fk_Reader_startTag_156 {w y : Prop} {g : g_S} {n : NS} {m : YS} (hw : w) {xv3 : Int32} {v3 : Int} (ev3 : xv3 = Int32.ofInt v3) (rv3 : inR v3) {xv6 : Int32} {v6 : Int} (ev6 : xv6 = Int32.ofInt v6) (rv6 : inR v6) {xv7 : Nat} {v7 : Int} (ev7 : xv7 = aNd v7) (rv7 : 0 ≤ v7 ∧ v7 ≤ 120) (hR : RC w y g n m) : Rf (fun a b => RC w y a b m) (k_Reader_startTag_156 1631 xv3 xv6 xv7 g) (nk_Reader_startTag_156 v3 v6 v7 n) := by
  subst ev3
  subst ev6
  subst ev7
  unfold k_Reader_startTag_156 nk_Reader_startTag_156
  refine v_c (ce_nd hR hw rv7).1 ?_
  refine rf_bind (f_Node_isEmptyTag hw rfl rv7 hR) (fun a4 z2 h => ?_)
  obtain ⟨rfl, r3⟩ := h
  refine rf_eq rfl (e_n 0) (inZ.r r3) (show inR 0 by decide) ?_ ?_
  · refine c_I (s := 6) hR (sK8 hR hw) rfl rfl (fun h6 => ?_)
    refine c_S hR hw (sK8 hR hw) (by decide) (show srf 8 0 4 = some 1634 from rfl) ?_
    refine s_N (sA30 hR hw) (by decide) (lA30 hR hw) ?_
    refine rf_lt rfl (e_N 22) h6 (show inR 22 by decide) ?_ ?_
    · refine c_S hR hw (sK8 hR hw) (by decide) (show srf 8 0 4 = some 1634 from rfl) ?_
      refine c_I (s := 6) hR (sK8 hR hw) rfl rfl (fun h11 => ?_)
      refine t_I (L := 22) hR (sA30 hR hw) (lA30 hR hw) rfl rfl h11 rfl rv6 (fun g15 n13 hR14 => ?_)
      refine c_S hR14 hw (sK8 hR14 hw) (by decide) (show srf 8 0 5 = some 1635 from rfl) ?_
      refine c_I (s := 6) hR14 (sK8 hR14 hw) rfl rfl (fun h17 => ?_)
      refine t_I (L := 22) hR14 (sA31 hR14 hw) (lA31 hR14 hw) rfl rfl h17 rfl rv3 (fun g21 n19 hR20 => ?_)
      refine c_I (s := 6) hR20 (sK8 hR20 hw) rfl rfl (fun h22 => ?_)
      refine rf_ck (fun h23 => ?_)
      refine p_I (s := 6) hR20 (sK8 hR20 hw) rfl ⟨rfl, rfl, by decide⟩ (e_add rfl (e_n 1)) h23 (fun g27 n25 hR26 => ?_)
      exact rf_ok (by exact hR26)
    · exact rf_ok (by exact hR)
  · exact rf_ok (by exact hR)
noncomputable def nk_Reader_startTag_76 (v1 : Int) (v3 : Int) (v4 : Int) (n : NS) : Option (NS) :=
  ck ((n 8 0 6) - 1) <|
  ix ((n 8 0 6) - 1) 22 <|
  (N_Tree_hasRoom (n 30 0 ((n 8 0 6) - 1)) n).bind fun z8 =>
  if z8 = 0 then
    (N_Reader_tell 6 v3 n).bind fun n13 =>
    some n13
  else
    (N_Tree_grow (n 30 0 ((n 8 0 6) - 1)) v4 v1 n).bind <| u2 fun z19 n22 =>
    ix z19 120 <|
    (N_Node_copyAttributes z19 120 n22).bind fun n31 =>
    if v4 = 13 then
      (N_Node_startInput z19 n31).bind fun n36 =>
      nk_Reader_startTag_156 v3 z19 z19 n36
    else
      nk_Reader_startTag_156 v3 z19 z19 n31
theorem fk_Reader_startTag_76 {w y : Prop} {g : g_S} {n : NS} {m : YS} (hw : w) {xv1 : Int64} {v1 : Int} (ev1 : xv1 = Int64.ofInt v1) (rv1 : inL v1) {xv3 : Int32} {v3 : Int} (ev3 : xv3 = Int32.ofInt v3) (rv3 : inR v3) {xv4 : Int32} {v4 : Int} (ev4 : xv4 = Int32.ofInt v4) (rv4 : inR v4) (hR : RC w y g n m) : Rf (fun a b => RC w y a b m) (k_Reader_startTag_76 1631 xv1 xv3 xv4 g) (nk_Reader_startTag_76 v1 v3 v4 n) := by
  subst ev1
  subst ev3
  subst ev4
  unfold k_Reader_startTag_76 nk_Reader_startTag_76
  refine c_S hR hw (sK8 hR hw) (by decide) (show srf 8 0 4 = some 1634 from rfl) ?_
  refine c_I (s := 6) hR (sK8 hR hw) rfl rfl (fun h2 => ?_)
  refine rf_ck (fun h3 => ?_)
  refine s_I (L := 22) hR (sA30 hR hw) rfl (lA30 hR hw) rfl (e_sub rfl (e_n 1)) h3 (fun h4 h5 => ?_)
  refine c_S hR hw (sK8 hR hw) (by decide) (show srf 8 0 0 = some 5 from rfl) ?_
  refine v_c (sK10 hR hw).1 ?_
  refine rf_bind (f_Tree_hasRoom hw rfl h5 hR) (fun a10 z8 h => ?_)
  obtain ⟨rfl, r9⟩ := h
  refine rf_eq rfl (e_n 0) (inZ.r r9) (show inR 0 by decide) ?_ ?_
  · refine v_c (sK8 hR hw).1 ?_
    refine rf_bind (f_Reader_tell hw (e_n 6) (show inR 6 by decide) rfl rv3 hR) (fun g15 n13 hR14 => ?_)
    exact rf_ok (by exact hR14)
  · refine c_S hR hw (sK8 hR hw) (by decide) (show srf 8 0 0 = some 5 from rfl) ?_
    refine v_c2 (sK10 hR hw).1 ?_
    refine rf_c2 (f_Tree_grow hw rfl h5 rfl rv4 rfl rv1 hR) (fun a21 g24 b h => ?_)
    obtain ⟨z19, n22⟩ := b
    refine rf_v2 ?_
    obtain ⟨rfl, r20⟩ := (show RI a21 z19 from h.1)
    have hR23 : RC w y g24 n22 m := h.2
    refine c_S hR23 hw (sK8 hR23 hw) (by decide) (show srf 8 0 0 = some 5 from rfl) ?_
    refine c_S hR23 hw (sK10 hR23 hw) (by decide) (show srf 10 0 0 = some 6 from rfl) ?_
    refine s_S (p := aNd (_)) (L := 120) hR23 hw (sA20 hR23 hw) (by decide) (lA20 hR23 hw) rfl rfl r20 (fun z1 z2 => srf20 z1 z2) (fun h27 => ?_)
    refine c_S hR23 hw (sK8 hR23 hw) (by decide) (show srf 8 0 7 = some 1636 from rfl) ?_
    refine v_c (ce_nd hR23 hw (And.intro h27.1 (Int.le_of_lt h27.2))).1 ?_
    refine rf_bind (f_Node_copyAttributes hw rfl (And.intro h27.1 (Int.le_of_lt h27.2)) nS120.symm (by decide) hR23) (fun g33 n31 hR32 => ?_)
    refine rf_eq rfl (e_n 13) rv4 (show inR 13 by decide) ?_ ?_
    · refine v_c (ce_nd hR32 hw (And.intro h27.1 (Int.le_of_lt h27.2))).1 ?_
      refine rf_bind (f_Node_startInput hw rfl (And.intro h27.1 (Int.le_of_lt h27.2)) hR32) (fun g38 n36 hR37 => ?_)
      exact fk_Reader_startTag_156 hw rfl rv3 rfl r20 rfl (And.intro h27.1 (Int.le_of_lt h27.2)) hR37
    · exact fk_Reader_startTag_156 hw rfl rv3 rfl r20 rfl (And.intro h27.1 (Int.le_of_lt h27.2)) hR32
noncomputable def nk_Reader_startTag_54 (v1 : Int) (v3 : Int) (v4 : Int) (n : NS) : Option (NS) :=
  if v4 = 7 then
    (N_Reader_closeTag 7 n).bind <| u2 fun z3 n6 =>
    if z3 = 0 then
      nk_Reader_startTag_76 v1 v3 v4 n6
    else
      (N_Reader_tell 5 v3 n6).bind fun n11 =>
      nk_Reader_startTag_76 v1 v3 v4 n11
  else
    nk_Reader_startTag_76 v1 v3 v4 n
theorem fk_Reader_startTag_54 {w y : Prop} {g : g_S} {n : NS} {m : YS} (hw : w) {xv1 : Int64} {v1 : Int} (ev1 : xv1 = Int64.ofInt v1) (rv1 : inL v1) {xv3 : Int32} {v3 : Int} (ev3 : xv3 = Int32.ofInt v3) (rv3 : inR v3) {xv4 : Int32} {v4 : Int} (ev4 : xv4 = Int32.ofInt v4) (rv4 : inR v4) (hR : RC w y g n m) : Rf (fun a b => RC w y a b m) (k_Reader_startTag_54 1631 xv1 xv3 xv4 g) (nk_Reader_startTag_54 v1 v3 v4 n) := by
  subst ev1
  subst ev3
  subst ev4
  unfold k_Reader_startTag_54 nk_Reader_startTag_54
  refine rf_eq rfl (e_n 7) rv4 (show inR 7 by decide) ?_ ?_
  · refine v_c2 (sK8 hR hw).1 ?_
    refine rf_c2 (f_Reader_closeTag hw (e_n 7) (show inR 7 by decide) hR) (fun a5 g8 b h => ?_)
    obtain ⟨z3, n6⟩ := b
    refine rf_v2 ?_
    obtain ⟨rfl, r4⟩ := (show RZ a5 z3 from h.1)
    have hR7 : RC w y g8 n6 m := h.2
    refine rf_eq rfl (e_n 0) (inZ.r r4) (show inR 0 by decide) ?_ ?_
    · exact fk_Reader_startTag_76 hw rfl rv1 rfl rv3 rfl rv4 hR7
    · refine v_c (sK8 hR7 hw).1 ?_
      refine rf_bind (f_Reader_tell hw (e_n 5) (show inR 5 by decide) rfl rv3 hR7) (fun g13 n11 hR12 => ?_)
      exact fk_Reader_startTag_76 hw rfl rv1 rfl rv3 rfl rv4 hR12
  · exact fk_Reader_startTag_76 hw rfl rv1 rfl rv3 rfl rv4 hR
noncomputable def nk_Reader_startTag_29 (v1 : Int) (v3 : Int) (v4 : Int) (n : NS) : Option (NS) :=
  if v4 = 4 then
    (N_Reader_openOf 4 n).bind fun z3 =>
    (N_Reader_openOf 3 n).bind fun z7 =>
    if z7 < z3 then
      (N_Reader_closeTag 4 n).bind <| u2 fun z12 n15 =>
      nk_Reader_startTag_54 v1 v3 v4 n15
    else
      nk_Reader_startTag_54 v1 v3 v4 n
  else
    nk_Reader_startTag_54 v1 v3 v4 n
theorem fk_Reader_startTag_29 {w y : Prop} {g : g_S} {n : NS} {m : YS} (hw : w) {xv1 : Int64} {v1 : Int} (ev1 : xv1 = Int64.ofInt v1) (rv1 : inL v1) {xv3 : Int32} {v3 : Int} (ev3 : xv3 = Int32.ofInt v3) (rv3 : inR v3) {xv4 : Int32} {v4 : Int} (ev4 : xv4 = Int32.ofInt v4) (rv4 : inR v4) (hR : RC w y g n m) : Rf (fun a b => RC w y a b m) (k_Reader_startTag_29 1631 xv1 xv3 xv4 g) (nk_Reader_startTag_29 v1 v3 v4 n) := by
  subst ev1
  subst ev3
  subst ev4
  unfold k_Reader_startTag_29 nk_Reader_startTag_29
  refine rf_eq rfl (e_n 4) rv4 (show inR 4 by decide) ?_ ?_
  · refine v_c (sK8 hR hw).1 ?_
    refine rf_bind (f_Reader_openOf hw (e_n 4) (show inR 4 by decide) hR) (fun a5 z3 h => ?_)
    obtain ⟨rfl, r4⟩ := h
    refine v_c (sK8 hR hw).1 ?_
    refine rf_bind (f_Reader_openOf hw (e_n 3) (show inR 3 by decide) hR) (fun a9 z7 h => ?_)
    obtain ⟨rfl, r8⟩ := h
    refine rf_lt rfl rfl r8 r4 ?_ ?_
    · refine v_c2 (sK8 hR hw).1 ?_
      refine rf_c2 (f_Reader_closeTag hw (e_n 4) (show inR 4 by decide) hR) (fun a14 g17 b h => ?_)
      obtain ⟨z12, n15⟩ := b
      refine rf_v2 ?_
      obtain ⟨rfl, r13⟩ := (show RZ a14 z12 from h.1)
      have hR16 : RC w y g17 n15 m := h.2
      exact fk_Reader_startTag_54 hw rfl rv1 rfl rv3 rfl rv4 hR16
    · exact fk_Reader_startTag_54 hw rfl rv1 rfl rv3 rfl rv4 hR
  · exact fk_Reader_startTag_54 hw rfl rv1 rfl rv3 rfl rv4 hR
noncomputable def nk_Reader_startTag_23 (v1 : Int) (v3 : Int) (v4 : Int) (n : NS) : Option (NS) :=
  (N_Reader_closeTag 1 n).bind <| u2 fun z2 n5 =>
  nk_Reader_startTag_29 v1 v3 v4 n5
theorem fk_Reader_startTag_23 {w y : Prop} {g : g_S} {n : NS} {m : YS} (hw : w) {xv1 : Int64} {v1 : Int} (ev1 : xv1 = Int64.ofInt v1) (rv1 : inL v1) {xv3 : Int32} {v3 : Int} (ev3 : xv3 = Int32.ofInt v3) (rv3 : inR v3) {xv4 : Int32} {v4 : Int} (ev4 : xv4 = Int32.ofInt v4) (rv4 : inR v4) (hR : RC w y g n m) : Rf (fun a b => RC w y a b m) (k_Reader_startTag_23 1631 xv1 xv3 xv4 g) (nk_Reader_startTag_23 v1 v3 v4 n) := by
  subst ev1
  subst ev3
  subst ev4
  unfold k_Reader_startTag_23 nk_Reader_startTag_23
  refine v_c2 (sK8 hR hw).1 ?_
  refine rf_c2 (f_Reader_closeTag hw (e_n 1) (show inR 1 by decide) hR) (fun a4 g7 b h => ?_)
  obtain ⟨z2, n5⟩ := b
  refine rf_v2 ?_
  obtain ⟨rfl, r3⟩ := (show RZ a4 z2 from h.1)
  have hR6 : RC w y g7 n5 m := h.2
  exact fk_Reader_startTag_29 hw rfl rv1 rfl rv3 rfl rv4 hR6
noncomputable def N_Reader_startTag (v1 : Int) (v3 : Int) (n : NS) : Option (NS) :=
  (N_Tree_tagOf v1 n).bind fun z3 =>
  if 5 < z3 then
    if z3 = 11 then
      nk_Reader_startTag_23 v1 v3 z3 n
    else
      nk_Reader_startTag_29 v1 v3 z3 n
  else
    nk_Reader_startTag_23 v1 v3 z3 n
theorem f_Reader_startTag {w y : Prop} {g : g_S} {n : NS} {m : YS} (hw : w) {xv1 : Int64} {v1 : Int} (ev1 : xv1 = Int64.ofInt v1) (rv1 : inL v1) {xv3 : Int32} {v3 : Int} (ev3 : xv3 = Int32.ofInt v3) (rv3 : inR v3) (hR : RC w y g n m) : Rf (fun a b => RC w y a b m) (M_Reader_startTag 1631 xv1 xv3 g) (N_Reader_startTag v1 v3 n) := by
  subst ev1
  subst ev3
  unfold M_Reader_startTag N_Reader_startTag
  refine c_S hR hw (sK8 hR hw) (by decide) (show srf 8 0 0 = some 5 from rfl) ?_
  refine v_c (sK10 hR hw).1 ?_
  refine rf_bind (f_Tree_tagOf hw rfl rv1 hR) (fun a5 z3 h => ?_)
  obtain ⟨rfl, r4⟩ := h
  refine rf_lt (e_n 5) rfl (show inR 5 by decide) r4 ?_ ?_
  · refine rf_eq rfl (e_n 11) r4 (show inR 11 by decide) ?_ ?_
    · exact fk_Reader_startTag_23 hw rfl rv1 rfl rv3 rfl r4 hR
    · exact fk_Reader_startTag_29 hw rfl rv1 rfl rv3 rfl r4 hR
  · exact fk_Reader_startTag_23 hw rfl rv1 rfl rv3 rfl r4 hR
noncomputable def nb_Reader_readTag_57 (v1 : Int) (v2 : Int) (v3 : Int) (v4 : Int) (v5 : Int) (n : NS) : Option ((Int) ⊕ (Int)) :=
  if v5 < (n 8 0 9) then
    nn (n 8 0 8) <|
    dx n (n 8 0 8) 1 v5 <|
    (N_Bytes_isLetter (n 99 (n 8 0 8) v5) n).bind fun z7 =>
    if z7 = 0 then
      nn (n 8 0 8) <|
      dx n (n 8 0 8) 1 v5 <|
      (N_Bytes_isDigit (n 99 (n 8 0 8) v5) n).bind fun z15 =>
      if z15 = 0 then
        some (.inr v5)
      else
        ck (v5 + 1) <|
        some (.inl (v5 + 1))
    else
      ck (v5 + 1) <|
      some (.inl (v5 + 1))
  else
    some (.inr v5)
theorem fb_Reader_readTag_57 {w y : Prop} {g : g_S} {n : NS} {m : YS} (hw : w) {xv1 : Int32} {v1 : Int} (ev1 : xv1 = Int32.ofInt v1) (rv1 : inR v1) {xv2 : Int32} {v2 : Int} (ev2 : xv2 = Int32.ofInt v2) (rv2 : inR v2) {xv3 : Int32} {v3 : Int} (ev3 : xv3 = Int32.ofInt v3) (rv3 : inR v3) {xv4 : Int32} {v4 : Int} (ev4 : xv4 = Int32.ofInt v4) (rv4 : inR v4) {xv5 : Int32} {v5 : Int} (ev5 : xv5 = Int32.ofInt v5) (rv5 : inR v5) (hR : RC w y g n m) : Rf (RS (fun a b => RI a b) (fun a b => RI a b)) (b_Reader_readTag_57 1631 xv1 xv2 xv3 xv4 xv5 g) (nb_Reader_readTag_57 v1 v2 v3 v4 v5 n) := by
  subst ev1
  subst ev2
  subst ev3
  subst ev4
  subst ev5
  unfold b_Reader_readTag_57 nb_Reader_readTag_57
  refine c_I (s := 9) hR (sK8 hR hw) rfl rfl (fun h1 => ?_)
  refine rf_lt rfl rfl rv5 h1 ?_ ?_
  · refine c_D (s := 8) hR (sK8 hR hw) rfl rfl rfl (fun h3 => ?_)
    refine d_B hR h3 rfl rv5 (fun h4 h5 => ?_)
    refine rf_bind (f_Bytes_isLetter rfl (inB.r h5) hR) (fun a9 z7 h => ?_)
    obtain ⟨rfl, r8⟩ := h
    refine rf_eq rfl (e_n 0) (inZ.r r8) (show inR 0 by decide) ?_ ?_
    · refine c_D (s := 8) hR (sK8 hR hw) rfl rfl rfl (fun h11 => ?_)
      refine d_B hR h11 rfl rv5 (fun h12 h13 => ?_)
      refine rf_bind (f_Bytes_isDigit rfl (inB.r h13) hR) (fun a17 z15 h => ?_)
      obtain ⟨rfl, r16⟩ := h
      refine rf_eq rfl (e_n 0) (inZ.r r16) (show inR 0 by decide) ?_ ?_
      · exact rf_ok (by exact ⟨rfl, rv5⟩)
      · refine rf_ck (fun h19 => ?_)
        exact rf_ok (by exact ⟨(e_add rfl (e_n 1)), h19⟩)
    · refine rf_ck (fun h20 => ?_)
      exact rf_ok (by exact ⟨(e_add rfl (e_n 1)), h20⟩)
  · exact rf_ok (by exact ⟨rfl, rv5⟩)
noncomputable def NL_Reader_readTag_57 (v1 : Int) (v2 : Int) (v3 : Int) (v4 : Int) (v5 : Int) (n : NS) : Option (Int) :=
  it (fun s : Int => nb_Reader_readTag_57 v1 v2 v3 v4 s n) (v5)
theorem fL_Reader_readTag_57 {w y : Prop} {g : g_S} {n : NS} {m : YS} (hw : w) {xv1 : Int32} {v1 : Int} (ev1 : xv1 = Int32.ofInt v1) (rv1 : inR v1) {xv2 : Int32} {v2 : Int} (ev2 : xv2 = Int32.ofInt v2) (rv2 : inR v2) {xv3 : Int32} {v3 : Int} (ev3 : xv3 = Int32.ofInt v3) (rv3 : inR v3) {xv4 : Int32} {v4 : Int} (ev4 : xv4 = Int32.ofInt v4) (rv4 : inR v4) {xv5 : Int32} {v5 : Int} (ev5 : xv5 = Int32.ofInt v5) (rv5 : inR v5) (hR : RC w y g n m) : Rf (fun a b => RI a b) (L_Reader_readTag_57 1631 xv1 xv2 xv3 xv4 xv5 g) (NL_Reader_readTag_57 v1 v2 v3 v4 v5 n) := by
  subst ev1
  subst ev2
  subst ev3
  subst ev4
  subst ev5
  unfold L_Reader_readTag_57 NL_Reader_readTag_57
  refine rf_it (I := (fun a b => RI a b)) (fun s t h => ?_) ⟨rfl, rv5⟩
  exact fb_Reader_readTag_57 hw rfl rv1 rfl rv2 rfl rv3 rfl rv4 h.1 h.2 hR
theorem NL_Reader_readTag_57_eq (v1 : Int) (v2 : Int) (v3 : Int) (v4 : Int) (v5 : Int) (n : NS) : NL_Reader_readTag_57 v1 v2 v3 v4 v5 n = itc (nb_Reader_readTag_57 v1 v2 v3 v4 v5 n) (fun s => NL_Reader_readTag_57 v1 v2 v3 v4 s n) := it_eq2 (fun s : Int => nb_Reader_readTag_57 v1 v2 v3 v4 s n) (v5)
noncomputable def nk_Reader_readTag_177 (v1 : Int) (v2 : Int) (v3 : Int) (v5 : Int) (v6 : Int) (v8 : Int) (n : NS) : Option ((Int × Int × NS) ⊕ (Int × NS)) :=
  ck (v5 + 1) <|
  ck (v8 + 1) <|
  some (.inl (v5 + 1, v8 + 1, n))
theorem fk_Reader_readTag_177 {w y : Prop} {g : g_S} {n : NS} {m : YS} (hw : w) {xv1 : Int32} {v1 : Int} (ev1 : xv1 = Int32.ofInt v1) (rv1 : inR v1) {xv2 : Int32} {v2 : Int} (ev2 : xv2 = Int32.ofInt v2) (rv2 : inR v2) {xv3 : Int32} {v3 : Int} (ev3 : xv3 = Int32.ofInt v3) (rv3 : inR v3) {xv5 : Int32} {v5 : Int} (ev5 : xv5 = Int32.ofInt v5) (rv5 : inR v5) {xv6 : Int64} {v6 : Int} (ev6 : xv6 = Int64.ofInt v6) (rv6 : inL v6) {xv8 : Int32} {v8 : Int} (ev8 : xv8 = Int32.ofInt v8) (rv8 : inR v8) (hR : RC w y g n m) : Rf (RS (fun a b => RI a.1 b.1 ∧ RI a.2.1 b.2.1 ∧ RC w y a.2.2 b.2.2 m) (fun a b => RI a.1 b.1 ∧ RC w y a.2 b.2 m)) (k_Reader_readTag_177 1631 xv1 xv2 xv3 xv5 xv6 xv8 g) (nk_Reader_readTag_177 v1 v2 v3 v5 v6 v8 n) := by
  subst ev1
  subst ev2
  subst ev3
  subst ev5
  subst ev6
  subst ev8
  unfold k_Reader_readTag_177 nk_Reader_readTag_177
  refine rf_ck (fun h1 => ?_)
  refine rf_ck (fun h2 => ?_)
  exact rf_ok (by exact ⟨⟨(e_add rfl (e_n 1)), h1⟩, ⟨(e_add rfl (e_n 1)), h2⟩, hR⟩)
noncomputable def nb_Reader_readTag_122 (v1 : Int) (v2 : Int) (v3 : Int) (v6 : Int) (v5 : Int) (v8 : Int) (n : NS) : Option ((Int × Int × NS) ⊕ (Int × NS)) :=
  if v8 < (n 8 0 9) then
    if v5 < (n 8 0 9) then
      nn (n 8 0 8) <|
      dx n (n 8 0 8) 1 v5 <|
      if (n 99 (n 8 0 8) v5) = 62 then
        some (.inr (v5, n))
      else
        nn (n 8 0 8) <|
        dx n (n 8 0 8) 1 v5 <|
        (N_Bytes_isBlank (n 99 (n 8 0 8) v5) n).bind fun z13 =>
        if z13 = 0 then
          nn (n 8 0 8) <|
          dx n (n 8 0 8) 1 v5 <|
          if (n 99 (n 8 0 8) v5) = 47 then
            nk_Reader_readTag_177 v1 v2 v3 v5 v6 v8 n
          else
            (N_Reader_readAttribute v5 v3 n).bind <| u2 fun z22 n25 =>
            ck (v8 + 1) <|
            some (.inl (z22, v8 + 1, n25))
        else
          nk_Reader_readTag_177 v1 v2 v3 v5 v6 v8 n
    else
      some (.inr (v5, n))
  else
    some (.inr (v5, n))
theorem fb_Reader_readTag_122 {w y : Prop} {g : g_S} {n : NS} {m : YS} (hw : w) {xv1 : Int32} {v1 : Int} (ev1 : xv1 = Int32.ofInt v1) (rv1 : inR v1) {xv2 : Int32} {v2 : Int} (ev2 : xv2 = Int32.ofInt v2) (rv2 : inR v2) {xv3 : Int32} {v3 : Int} (ev3 : xv3 = Int32.ofInt v3) (rv3 : inR v3) {xv6 : Int64} {v6 : Int} (ev6 : xv6 = Int64.ofInt v6) (rv6 : inL v6) {xv5 : Int32} {v5 : Int} (ev5 : xv5 = Int32.ofInt v5) (rv5 : inR v5) {xv8 : Int32} {v8 : Int} (ev8 : xv8 = Int32.ofInt v8) (rv8 : inR v8) (hR : RC w y g n m) : Rf (RS (fun a b => RI a.1 b.1 ∧ RI a.2.1 b.2.1 ∧ RC w y a.2.2 b.2.2 m) (fun a b => RI a.1 b.1 ∧ RC w y a.2 b.2 m)) (b_Reader_readTag_122 1631 xv1 xv2 xv3 xv6 xv5 xv8 g) (nb_Reader_readTag_122 v1 v2 v3 v6 v5 v8 n) := by
  subst ev1
  subst ev2
  subst ev3
  subst ev6
  subst ev5
  subst ev8
  unfold b_Reader_readTag_122 nb_Reader_readTag_122
  refine c_I (s := 9) hR (sK8 hR hw) rfl rfl (fun h1 => ?_)
  refine rf_lt rfl rfl rv8 h1 ?_ ?_
  · refine c_I (s := 9) hR (sK8 hR hw) rfl rfl (fun h3 => ?_)
    refine rf_lt rfl rfl rv5 h3 ?_ ?_
    · refine c_D (s := 8) hR (sK8 hR hw) rfl rfl rfl (fun h5 => ?_)
      refine d_B hR h5 rfl rv5 (fun h6 h7 => ?_)
      refine rf_eq rfl (e_n 62) (inB.r h7) (show inR 62 by decide) ?_ ?_
      · exact rf_ok (by exact ⟨⟨rfl, rv5⟩, hR⟩)
      · refine c_D (s := 8) hR (sK8 hR hw) rfl rfl rfl (fun h9 => ?_)
        refine d_B hR h9 rfl rv5 (fun h10 h11 => ?_)
        refine rf_bind (f_Bytes_isBlank rfl (inB.r h11) hR) (fun a15 z13 h => ?_)
        obtain ⟨rfl, r14⟩ := h
        refine rf_eq rfl (e_n 0) (inZ.r r14) (show inR 0 by decide) ?_ ?_
        · refine c_D (s := 8) hR (sK8 hR hw) rfl rfl rfl (fun h17 => ?_)
          refine d_B hR h17 rfl rv5 (fun h18 h19 => ?_)
          refine rf_eq rfl (e_n 47) (inB.r h19) (show inR 47 by decide) ?_ ?_
          · exact fk_Reader_readTag_177 hw rfl rv1 rfl rv2 rfl rv3 rfl rv5 rfl rv6 rfl rv8 hR
          · refine v_c2 (sK8 hR hw).1 ?_
            refine rf_c2 (f_Reader_readAttribute hw rfl rv5 rfl rv3 hR) (fun a24 g27 b h => ?_)
            obtain ⟨z22, n25⟩ := b
            refine rf_v2 ?_
            obtain ⟨rfl, r23⟩ := (show RI a24 z22 from h.1)
            have hR26 : RC w y g27 n25 m := h.2
            refine rf_ck (fun h28 => ?_)
            exact rf_ok (by exact ⟨⟨rfl, r23⟩, ⟨(e_add rfl (e_n 1)), h28⟩, hR26⟩)
        · exact fk_Reader_readTag_177 hw rfl rv1 rfl rv2 rfl rv3 rfl rv5 rfl rv6 rfl rv8 hR
    · exact rf_ok (by exact ⟨⟨rfl, rv5⟩, hR⟩)
  · exact rf_ok (by exact ⟨⟨rfl, rv5⟩, hR⟩)
noncomputable def NL_Reader_readTag_122 (v1 : Int) (v2 : Int) (v3 : Int) (v6 : Int) (v5 : Int) (v8 : Int) (n : NS) : Option (Int × NS) :=
  it (fun s : Int × Int × NS => nb_Reader_readTag_122 v1 v2 v3 v6 s.1 s.2.1 s.2.2) (v5, v8, n)
theorem fL_Reader_readTag_122 {w y : Prop} {g : g_S} {n : NS} {m : YS} (hw : w) {xv1 : Int32} {v1 : Int} (ev1 : xv1 = Int32.ofInt v1) (rv1 : inR v1) {xv2 : Int32} {v2 : Int} (ev2 : xv2 = Int32.ofInt v2) (rv2 : inR v2) {xv3 : Int32} {v3 : Int} (ev3 : xv3 = Int32.ofInt v3) (rv3 : inR v3) {xv6 : Int64} {v6 : Int} (ev6 : xv6 = Int64.ofInt v6) (rv6 : inL v6) {xv5 : Int32} {v5 : Int} (ev5 : xv5 = Int32.ofInt v5) (rv5 : inR v5) {xv8 : Int32} {v8 : Int} (ev8 : xv8 = Int32.ofInt v8) (rv8 : inR v8) (hR : RC w y g n m) : Rf (fun a b => RI a.1 b.1 ∧ RC w y a.2 b.2 m) (L_Reader_readTag_122 1631 xv1 xv2 xv3 xv6 xv5 xv8 g) (NL_Reader_readTag_122 v1 v2 v3 v6 v5 v8 n) := by
  subst ev1
  subst ev2
  subst ev3
  subst ev6
  subst ev5
  subst ev8
  unfold L_Reader_readTag_122 NL_Reader_readTag_122
  refine rf_it (I := (fun a b => RI a.1 b.1 ∧ RI a.2.1 b.2.1 ∧ RC w y a.2.2 b.2.2 m)) (fun s t h => ?_) ⟨⟨rfl, rv5⟩, ⟨rfl, rv8⟩, hR⟩
  exact fb_Reader_readTag_122 hw rfl rv1 rfl rv2 rfl rv3 rfl rv6 h.1.1 h.1.2 h.2.1.1 h.2.1.2 h.2.2
theorem NL_Reader_readTag_122_eq (v1 : Int) (v2 : Int) (v3 : Int) (v6 : Int) (v5 : Int) (v8 : Int) (n : NS) : NL_Reader_readTag_122 v1 v2 v3 v6 v5 v8 n = itc (nb_Reader_readTag_122 v1 v2 v3 v6 v5 v8 n) (fun s => NL_Reader_readTag_122 v1 v2 v3 v6 s.1 s.2.1 s.2.2) := it_eq2 (fun s : Int × Int × NS => nb_Reader_readTag_122 v1 v2 v3 v6 s.1 s.2.1 s.2.2) (v5, v8, n)
noncomputable def nk_Reader_readTag_199 (v1 : Int) (v2 : Int) (v3 : Int) (v5 : Int) (v6 : Int) (n : NS) : Option (NS) :=
  if v5 < (n 8 0 9) then
    ck (v5 + 1) <|
    st (nw n 8 0 10 (v5 + 1)) fun n5 =>
    if v3 = 0 then
      (N_Reader_startTag v6 v1 n5).bind fun n10 =>
      some n10
    else
      (N_Reader_endTag v6 v1 n5).bind fun n15 =>
      some n15
  else
    st (nw n 8 0 3 v2) fun n20 =>
    (N_Reader_tell 1 v1 n20).bind fun n24 =>
    st (nw n24 8 0 10 (n24 8 0 9)) fun n29 =>
    some n29
theorem fk_Reader_readTag_199 {w y : Prop} {g : g_S} {n : NS} {m : YS} (hw : w) {xv1 : Int32} {v1 : Int} (ev1 : xv1 = Int32.ofInt v1) (rv1 : inR v1) {xv2 : Int32} {v2 : Int} (ev2 : xv2 = Int32.ofInt v2) (rv2 : inR v2) {xv3 : Int32} {v3 : Int} (ev3 : xv3 = Int32.ofInt v3) (rv3 : inR v3) {xv5 : Int32} {v5 : Int} (ev5 : xv5 = Int32.ofInt v5) (rv5 : inR v5) {xv6 : Int64} {v6 : Int} (ev6 : xv6 = Int64.ofInt v6) (rv6 : inL v6) (hR : RC w y g n m) : Rf (fun a b => RC w y a b m) (k_Reader_readTag_199 1631 xv1 xv2 xv3 xv5 xv6 g) (nk_Reader_readTag_199 v1 v2 v3 v5 v6 n) := by
  subst ev1
  subst ev2
  subst ev3
  subst ev5
  subst ev6
  unfold k_Reader_readTag_199 nk_Reader_readTag_199
  refine c_I (s := 9) hR (sK8 hR hw) rfl rfl (fun h1 => ?_)
  refine rf_lt rfl rfl rv5 h1 ?_ ?_
  · refine rf_ck (fun h3 => ?_)
    refine p_I (s := 10) hR (sK8 hR hw) rfl ⟨rfl, rfl, by decide⟩ (e_add rfl (e_n 1)) h3 (fun g7 n5 hR6 => ?_)
    refine rf_eq rfl (e_n 0) rv3 (show inR 0 by decide) ?_ ?_
    · refine v_c (sK8 hR6 hw).1 ?_
      refine rf_bind (f_Reader_startTag hw rfl rv6 rfl rv1 hR6) (fun g12 n10 hR11 => ?_)
      exact rf_ok (by exact hR11)
    · refine v_c (sK8 hR6 hw).1 ?_
      refine rf_bind (f_Reader_endTag hw rfl rv6 rfl rv1 hR6) (fun g17 n15 hR16 => ?_)
      exact rf_ok (by exact hR16)
  · refine p_I (s := 3) hR (sK8 hR hw) rfl ⟨rfl, rfl, by decide⟩ rfl rv2 (fun g22 n20 hR21 => ?_)
    refine v_c (sK8 hR21 hw).1 ?_
    refine rf_bind (f_Reader_tell hw (e_n 1) (show inR 1 by decide) rfl rv1 hR21) (fun g26 n24 hR25 => ?_)
    refine c_I (s := 9) hR25 (sK8 hR25 hw) rfl rfl (fun h27 => ?_)
    refine p_I (s := 10) hR25 (sK8 hR25 hw) rfl ⟨rfl, rfl, by decide⟩ rfl h27 (fun g31 n29 hR30 => ?_)
    exact rf_ok (by exact hR30)
noncomputable def nk_Reader_readTag_98 (v1 : Int) (v2 : Int) (v3 : Int) (v4 : Int) (v5 : Int) (n : NS) : Option (NS) :=
  nn (n 8 0 8) <|
  (N_Bytes_packSmall (n 8 0 8) v4 v5 n).bind fun z3 =>
  st (nw n 7 120 12 0) fun n8 =>
  (NL_Reader_readTag_122 v1 v2 v3 z3 v5 0 n8).bind <| u2 fun z11 n12 =>
  nk_Reader_readTag_199 v1 v2 v3 z11 z3 n12
theorem fk_Reader_readTag_98 {w y : Prop} {g : g_S} {n : NS} {m : YS} (hw : w) {xv1 : Int32} {v1 : Int} (ev1 : xv1 = Int32.ofInt v1) (rv1 : inR v1) {xv2 : Int32} {v2 : Int} (ev2 : xv2 = Int32.ofInt v2) (rv2 : inR v2) {xv3 : Int32} {v3 : Int} (ev3 : xv3 = Int32.ofInt v3) (rv3 : inR v3) {xv4 : Int32} {v4 : Int} (ev4 : xv4 = Int32.ofInt v4) (rv4 : inR v4) {xv5 : Int32} {v5 : Int} (ev5 : xv5 = Int32.ofInt v5) (rv5 : inR v5) (hR : RC w y g n m) : Rf (fun a b => RC w y a b m) (k_Reader_readTag_98 1631 xv1 xv2 xv3 xv4 xv5 g) (nk_Reader_readTag_98 v1 v2 v3 v4 v5 n) := by
  subst ev1
  subst ev2
  subst ev3
  subst ev4
  subst ev5
  unfold k_Reader_readTag_98 nk_Reader_readTag_98
  refine c_D (s := 8) hR (sK8 hR hw) rfl rfl rfl (fun h1 => ?_)
  refine rf_bind (f_Bytes_packSmall rfl h1 rfl rv4 rfl rv5 hR) (fun a5 z3 h => ?_)
  obtain ⟨rfl, r4⟩ := h
  refine c_S hR hw (sK8 hR hw) (by decide) (show srf 8 0 7 = some 1636 from rfl) ?_
  refine p_I (s := 12) hR (nS120 ▸ (ce_nd hR hw (by decide))) rfl ⟨rfl, rfl, by decide⟩ (e_n 0) (show inR 0 by decide) (fun g10 n8 hR9 => ?_)
  refine rf_bind (fL_Reader_readTag_122 hw rfl rv1 rfl rv2 rfl rv3 rfl r4 rfl rv5 (e_n 0) (show inR 0 by decide) hR9) (fun a b h => ?_)
  obtain ⟨a13, a14⟩ := a
  obtain ⟨z11, n12⟩ := b
  refine rf_u2 ?_
  obtain ⟨rfl, r16⟩ := (show RI a13 z11 from h.1)
  have hR15 : RC w y a14 n12 m := h.2
  exact fk_Reader_readTag_199 hw rfl rv1 rfl rv2 rfl rv3 rfl r16 rfl r4 hR15
noncomputable def nk_Reader_readTag_51 (v1 : Int) (v2 : Int) (v3 : Int) (w0 : Int) (n : NS) : Option (NS) :=
  (NL_Reader_readTag_57 v1 v2 v3 w0 w0 n).bind <| fun z1 =>
  nk_Reader_readTag_98 v1 v2 v3 w0 z1 n
theorem fk_Reader_readTag_51 {w y : Prop} {g : g_S} {n : NS} {m : YS} (hw : w) {xv1 : Int32} {v1 : Int} (ev1 : xv1 = Int32.ofInt v1) (rv1 : inR v1) {xv2 : Int32} {v2 : Int} (ev2 : xv2 = Int32.ofInt v2) (rv2 : inR v2) {xv3 : Int32} {v3 : Int} (ev3 : xv3 = Int32.ofInt v3) (rv3 : inR v3) {xw0 : Int32} {w0 : Int} (ew0 : xw0 = Int32.ofInt w0) (rw0 : inR w0) (hR : RC w y g n m) : Rf (fun a b => RC w y a b m) (k_Reader_readTag_51 1631 xv1 xv2 xv3 xw0 g) (nk_Reader_readTag_51 v1 v2 v3 w0 n) := by
  subst ev1
  subst ev2
  subst ev3
  subst ew0
  unfold k_Reader_readTag_51 nk_Reader_readTag_51
  refine rf_bind (fL_Reader_readTag_57 hw rfl rv1 rfl rv2 rfl rv3 rfl rw0 rfl rw0 hR) (fun a2 z1 h => ?_)
  obtain ⟨rfl, r3⟩ := (show RI a2 z1 from h)
  exact fk_Reader_readTag_98 hw rfl rv1 rfl rv2 rfl rv3 rfl rw0 rfl r3 hR
noncomputable def nk_Reader_readTag_31 (v1 : Int) (v2 : Int) (w0 : Int) (n : NS) : Option (NS) :=
  if w0 = 0 then
    ck ((n 8 0 10) + 1) <|
    nk_Reader_readTag_51 v1 v2 w0 ((n 8 0 10) + 1) n
  else
    ck ((n 8 0 10) + 2) <|
    nk_Reader_readTag_51 v1 v2 w0 ((n 8 0 10) + 2) n
theorem fk_Reader_readTag_31 {w y : Prop} {g : g_S} {n : NS} {m : YS} (hw : w) {xv1 : Int32} {v1 : Int} (ev1 : xv1 = Int32.ofInt v1) (rv1 : inR v1) {xv2 : Int32} {v2 : Int} (ev2 : xv2 = Int32.ofInt v2) (rv2 : inR v2) {xw0 : Int32} {w0 : Int} (ew0 : xw0 = Int32.ofInt w0) (rw0 : inR w0) (hR : RC w y g n m) : Rf (fun a b => RC w y a b m) (k_Reader_readTag_31 1631 xv1 xv2 xw0 g) (nk_Reader_readTag_31 v1 v2 w0 n) := by
  subst ev1
  subst ev2
  subst ew0
  unfold k_Reader_readTag_31 nk_Reader_readTag_31
  refine rf_eq rfl (e_n 0) rw0 (show inR 0 by decide) ?_ ?_
  · refine c_I (s := 10) hR (sK8 hR hw) rfl rfl (fun h2 => ?_)
    refine rf_ck (fun h3 => ?_)
    exact fk_Reader_readTag_51 hw rfl rv1 rfl rv2 rfl rw0 (e_add rfl (e_n 1)) h3 hR
  · refine c_I (s := 10) hR (sK8 hR hw) rfl rfl (fun h4 => ?_)
    refine rf_ck (fun h5 => ?_)
    exact fk_Reader_readTag_51 hw rfl rv1 rfl rv2 rfl rw0 (e_add rfl (e_n 2)) h5 hR
noncomputable def N_Reader_readTag (n : NS) : Option (NS) :=
  nn (n 8 0 8) <|
  ck ((n 8 0 10) + 1) <|
  dx n (n 8 0 8) 1 ((n 8 0 10) + 1) <|
  if (n 99 (n 8 0 8) ((n 8 0 10) + 1)) = 47 then
    nk_Reader_readTag_31 (n 8 0 10) (n 8 0 3) 1 n
  else
    nk_Reader_readTag_31 (n 8 0 10) (n 8 0 3) 0 n
theorem f_Reader_readTag {w y : Prop} {g : g_S} {n : NS} {m : YS} (hw : w) (hR : RC w y g n m) : Rf (fun a b => RC w y a b m) (M_Reader_readTag 1631 g) (N_Reader_readTag n) := by
  unfold M_Reader_readTag N_Reader_readTag
  refine c_I (s := 10) hR (sK8 hR hw) rfl rfl (fun h1 => ?_)
  refine c_I (s := 3) hR (sK8 hR hw) rfl rfl (fun h2 => ?_)
  refine c_D (s := 8) hR (sK8 hR hw) rfl rfl rfl (fun h3 => ?_)
  refine c_I (s := 10) hR (sK8 hR hw) rfl rfl (fun h4 => ?_)
  refine rf_ck (fun h5 => ?_)
  refine d_B hR h3 (e_add rfl (e_n 1)) h5 (fun h6 h7 => ?_)
  refine rf_eq rfl (e_n 47) (inB.r h7) (show inR 47 by decide) ?_ ?_
  · exact fk_Reader_readTag_31 hw rfl h1 rfl h2 (e_n 1) (show inR 1 by decide) hR
  · exact fk_Reader_readTag_31 hw rfl h1 rfl h2 (e_n 0) (show inR 0 by decide) hR
noncomputable def N_Reader_isComment (v1 : Int) (n : NS) : Option (Int) :=
  nn (n 8 0 8) <|
  dx n (n 8 0 8) 1 v1 <|
  if (n 99 (n 8 0 8) v1) = 60 then
    nn (n 8 0 8) <|
    (N_Bytes_stands 1000019 (n 8 0 8) v1 (n 8 0 9) n).bind fun z9 =>
    if z9 = 0 then
      some 0
    else
      some 1
  else
    some 0
theorem f_Reader_isComment {w y : Prop} {g : g_S} {n : NS} {m : YS} (hw : w) {xv1 : Int32} {v1 : Int} (ev1 : xv1 = Int32.ofInt v1) (rv1 : inR v1) (hR : RC w y g n m) : Rf (fun a b => RZ a b) (M_Reader_isComment 1631 xv1 g) (N_Reader_isComment v1 n) := by
  subst ev1
  unfold M_Reader_isComment N_Reader_isComment
  refine c_D (s := 8) hR (sK8 hR hw) rfl rfl rfl (fun h1 => ?_)
  refine d_B hR h1 rfl rv1 (fun h2 h3 => ?_)
  refine rf_eq rfl (e_n 60) (inB.r h3) (show inR 60 by decide) ?_ ?_
  · refine c_D (s := 8) hR (sK8 hR hw) rfl rfl rfl (fun h6 => ?_)
    refine c_I (s := 9) hR (sK8 hR hw) rfl rfl (fun h7 => ?_)
    refine rf_bind (f_Bytes_stands rfl h6 rfl rv1 rfl h7 hR) (fun a11 z9 h => ?_)
    obtain ⟨rfl, r10⟩ := h
    refine rf_eq rfl (e_n 0) (inZ.r r10) (show inR 0 by decide) ?_ ?_
    · exact rf_ok (by exact ⟨(e_n 0), (.inl rfl)⟩)
    · exact rf_ok (by exact ⟨(e_n 1), (.inr rfl)⟩)
  · exact rf_ok (by exact ⟨(e_n 0), (.inl rfl)⟩)
noncomputable def nb_Reader_readComment_7 (v1 : Int) (n : NS) : Option ((Int) ⊕ (Int)) :=
  if v1 < (n 8 0 9) then
    nn (n 8 0 8) <|
    (N_Bytes_stands 1000020 (n 8 0 8) v1 (n 8 0 9) n).bind fun z7 =>
    if z7 = 0 then
      ck (v1 + 1) <|
      some (.inl (v1 + 1))
    else
      some (.inr v1)
  else
    some (.inr v1)
theorem fb_Reader_readComment_7 {w y : Prop} {g : g_S} {n : NS} {m : YS} (hw : w) {xv1 : Int32} {v1 : Int} (ev1 : xv1 = Int32.ofInt v1) (rv1 : inR v1) (hR : RC w y g n m) : Rf (RS (fun a b => RI a b) (fun a b => RI a b)) (b_Reader_readComment_7 1631 xv1 g) (nb_Reader_readComment_7 v1 n) := by
  subst ev1
  unfold b_Reader_readComment_7 nb_Reader_readComment_7
  refine c_I (s := 9) hR (sK8 hR hw) rfl rfl (fun h1 => ?_)
  refine rf_lt rfl rfl rv1 h1 ?_ ?_
  · refine c_D (s := 8) hR (sK8 hR hw) rfl rfl rfl (fun h4 => ?_)
    refine c_I (s := 9) hR (sK8 hR hw) rfl rfl (fun h5 => ?_)
    refine rf_bind (f_Bytes_stands rfl h4 rfl rv1 rfl h5 hR) (fun a9 z7 h => ?_)
    obtain ⟨rfl, r8⟩ := h
    refine rf_eq rfl (e_n 0) (inZ.r r8) (show inR 0 by decide) ?_ ?_
    · refine rf_ck (fun h11 => ?_)
      exact rf_ok (by exact ⟨(e_add rfl (e_n 1)), h11⟩)
    · exact rf_ok (by exact ⟨rfl, rv1⟩)
  · exact rf_ok (by exact ⟨rfl, rv1⟩)
noncomputable def NL_Reader_readComment_7 (v1 : Int) (n : NS) : Option (Int) :=
  it (fun s : Int => nb_Reader_readComment_7 s n) (v1)
theorem fL_Reader_readComment_7 {w y : Prop} {g : g_S} {n : NS} {m : YS} (hw : w) {xv1 : Int32} {v1 : Int} (ev1 : xv1 = Int32.ofInt v1) (rv1 : inR v1) (hR : RC w y g n m) : Rf (fun a b => RI a b) (L_Reader_readComment_7 1631 xv1 g) (NL_Reader_readComment_7 v1 n) := by
  subst ev1
  unfold L_Reader_readComment_7 NL_Reader_readComment_7
  refine rf_it (I := (fun a b => RI a b)) (fun s t h => ?_) ⟨rfl, rv1⟩
  exact fb_Reader_readComment_7 hw h.1 h.2 hR
theorem NL_Reader_readComment_7_eq (v1 : Int) (n : NS) : NL_Reader_readComment_7 v1 n = itc (nb_Reader_readComment_7 v1 n) (fun s => NL_Reader_readComment_7 s n) := it_eq2 (fun s : Int => nb_Reader_readComment_7 s n) (v1)
noncomputable def nk_Reader_readComment_38 (v1 : Int) (n : NS) : Option (NS) :=
  if v1 < (n 8 0 9) then
    ck (v1 + 3) <|
    st (nw n 8 0 10 (v1 + 3)) fun n5 =>
    some n5
  else
    (N_Reader_tell 1 (n 8 0 10) n).bind fun n11 =>
    st (nw n11 8 0 10 (n11 8 0 9)) fun n16 =>
    some n16
theorem fk_Reader_readComment_38 {w y : Prop} {g : g_S} {n : NS} {m : YS} (hw : w) {xv1 : Int32} {v1 : Int} (ev1 : xv1 = Int32.ofInt v1) (rv1 : inR v1) (hR : RC w y g n m) : Rf (fun a b => RC w y a b m) (k_Reader_readComment_38 1631 xv1 g) (nk_Reader_readComment_38 v1 n) := by
  subst ev1
  unfold k_Reader_readComment_38 nk_Reader_readComment_38
  refine c_I (s := 9) hR (sK8 hR hw) rfl rfl (fun h1 => ?_)
  refine rf_lt rfl rfl rv1 h1 ?_ ?_
  · refine rf_ck (fun h3 => ?_)
    refine p_I (s := 10) hR (sK8 hR hw) rfl ⟨rfl, rfl, by decide⟩ (e_add rfl (e_n 3)) h3 (fun g7 n5 hR6 => ?_)
    exact rf_ok (by exact hR6)
  · refine c_I (s := 10) hR (sK8 hR hw) rfl rfl (fun h9 => ?_)
    refine v_c (sK8 hR hw).1 ?_
    refine rf_bind (f_Reader_tell hw (e_n 1) (show inR 1 by decide) rfl h9 hR) (fun g13 n11 hR12 => ?_)
    refine c_I (s := 9) hR12 (sK8 hR12 hw) rfl rfl (fun h14 => ?_)
    refine p_I (s := 10) hR12 (sK8 hR12 hw) rfl ⟨rfl, rfl, by decide⟩ rfl h14 (fun g18 n16 hR17 => ?_)
    exact rf_ok (by exact hR17)
noncomputable def N_Reader_readComment (n : NS) : Option (NS) :=
  ck ((n 8 0 10) + 4) <|
  (NL_Reader_readComment_7 ((n 8 0 10) + 4) n).bind <| fun z3 =>
  nk_Reader_readComment_38 z3 n
theorem f_Reader_readComment {w y : Prop} {g : g_S} {n : NS} {m : YS} (hw : w) (hR : RC w y g n m) : Rf (fun a b => RC w y a b m) (M_Reader_readComment 1631 g) (N_Reader_readComment n) := by
  unfold M_Reader_readComment N_Reader_readComment
  refine c_I (s := 10) hR (sK8 hR hw) rfl rfl (fun h1 => ?_)
  refine rf_ck (fun h2 => ?_)
  refine rf_bind (fL_Reader_readComment_7 hw (e_add rfl (e_n 4)) h2 hR) (fun a4 z3 h => ?_)
  obtain ⟨rfl, r5⟩ := (show RI a4 z3 from h)
  exact fk_Reader_readComment_38 hw rfl r5 hR
