/-! methods on numbers, group 0 -/
noncomputable def N_Address_init (v0 : Int) (n : NS) : Option (NS) :=
  al2 n 160 <|
  st (nnew n 1 160 160) fun n3 =>
  ty n3 v0 101 <|
  st (nw n3 99 v0 0 (n 90 0 0)) fun n11 =>
  some n11
theorem f_Address_init {w y : Prop} {g : g_S} {n : NS} {m : YS} {xv0 : Nat} {v0 : Int} (ev0 : xv0 = Int.toNat v0) (rv0 : 0 ≤ v0 ∧ lc (Int.toNat v0) = (99, v0)) (hR : RC w y g n m) : Rf (fun a b => RC w y a b m) (M_Address_init xv0 g) (N_Address_init v0 n) := by
  subst ev0
  unfold M_Address_init N_Address_init
  refine n_A hR (by decide) (e_n 160) (show inR 160 by decide) (fun h6 g5 n3 hR4 h7 => ?_)
  refine rf_ty (t := 101) rv0.1 hR4 (by decide) (fun h9 h10 => ?_)
  refine p_R (s := 0) (a := _) hR4 (ce_dy hR4 rv0 h10 (by decide)) rfl rfl rfl (rc_d h6) (fun g13 n11 hR12 => ?_)
  exact rf_ok (by exact hR12)
noncomputable def N_Answer_init (v0 : Int) (n : NS) : Option (NS) :=
  al1 n <|
  st (nnew n 101 0 8) fun n3 =>
  (N_Address_init (n 90 0 0) n3).bind fun n9 =>
  ty n9 v0 102 <|
  st (nw n9 99 v0 0 (n 90 0 0)) fun n15 =>
  ty n15 v0 102 <|
  st (nw n15 99 v0 1 (-1)) fun n21 =>
  al2 n21 0 <|
  st (nnew n21 1 0 0) fun n25 =>
  ty n25 v0 102 <|
  st (nw n25 99 v0 6 (n21 90 0 0)) fun n33 =>
  some n33
theorem f_Answer_init {w y : Prop} {g : g_S} {n : NS} {m : YS} {xv0 : Nat} {v0 : Int} (ev0 : xv0 = Int.toNat v0) (rv0 : 0 ≤ v0 ∧ lc (Int.toNat v0) = (99, v0)) (hR : RC w y g n m) : Rf (fun a b => RC w y a b m) (M_Answer_init xv0 g) (N_Answer_init v0 n) := by
  subst ev0
  unfold M_Answer_init N_Answer_init
  refine n_O hR (by decide) rfl (fun h6 g5 n3 hR4 h7 => ?_)
  refine rf_bind (f_Address_init rfl h6 hR4) (fun g11 n9 hR10 => ?_)
  refine rf_ty (t := 102) rv0.1 hR10 (by decide) (fun h13 h14 => ?_)
  refine p_R (s := 0) (a := _) hR10 (ce_dy hR10 rv0 h14 (by decide)) rfl rfl rfl (rc_d h6) (fun g17 n15 hR16 => ?_)
  refine rf_ty (t := 102) rv0.1 hR16 (by decide) (fun h19 h20 => ?_)
  refine p_I (s := 1) hR16 (ce_dy hR16 rv0 h20 (by decide)) rfl ⟨rfl, rfl, by decide⟩ (e_m 1) (show inR (-1) by decide) (fun g23 n21 hR22 => ?_)
  refine n_A hR22 (by decide) (e_n 0) (show inR 0 by decide) (fun h28 g27 n25 hR26 h29 => ?_)
  refine rf_ty (t := 102) rv0.1 hR26 (by decide) (fun h31 h32 => ?_)
  refine p_R (s := 6) (a := _) hR26 (ce_dy hR26 rv0 h32 (by decide)) rfl rfl rfl (rc_d h28) (fun g35 n33 hR34 => ?_)
  exact rf_ok (by exact hR34)
noncomputable def N_Arrays_copyOf (v0 : Int) (v1 : Int) (n : NS) : Option (Int × NS) :=
  ty n v0 1 <|
  ck (n 93 0 v0) <|
  if v1 = (n 93 0 v0) then
    none
  else
    al2 n v1 <|
    st (nnew n 1 v1 v1) fun n6 =>
    ty n6 v0 1 <|
    ck (n6 93 0 v0) <|
    cpg n6 1 v0 0 (n 90 0 0) 0 (min (n6 93 0 v0) v1) <|
    st (nwA n6 99 (n 90 0 0) (cpf (n6 99 v0) (n6 99 (n 90 0 0)) 0 0 (min (n6 93 0 v0) v1))) fun n15 =>
    some ((n 90 0 0), n15)
theorem f_Arrays_copyOf {w y : Prop} {g : g_S} {n : NS} {m : YS} {xv0 : Nat} {v0 : Int} (ev0 : xv0 = Int.toNat v0) (rv0 : 0 ≤ v0 ∧ lc (Int.toNat v0) = (99, v0)) {xv1 : Int32} {v1 : Int} (ev1 : xv1 = Int32.ofInt v1) (rv1 : inR v1) (hR : RC w y g n m) : Rf (fun a b => RD a.1 b.1 ∧ RC w y a.2 b.2 m) (M_Arrays_copyOf xv0 xv1 g) (N_Arrays_copyOf v0 v1 n) := by
  subst ev0
  subst ev1
  unfold M_Arrays_copyOf N_Arrays_copyOf
  refine d_N (t := 1) hR rv0 (by decide) (fun h1 h2 => ?_)
  refine rf_eq rfl rfl rv1 h1 ?_ ?_
  · exact rf_no
  · refine n_A hR (by decide) rfl rv1 (fun h9 g8 n6 hR7 h10 => ?_)
    refine d_N (t := 1) hR7 rv0 (by decide) (fun h11 h12 => ?_)
    refine n_cp hR7 (by decide) rv0 h9 (e_n 0) (show inR 0 by decide) (e_n 0) (show inR 0 by decide) (e_mn rfl rfl h11 rv1) (min_r h11 rv1) (fun g17 n15 hR16 => ?_)
    exact rf_ok (by exact ⟨⟨rfl, h9⟩, hR16⟩)
noncomputable def nk_Bytes_add_44 (v0 : Int) (v1 : Int) (n : NS) : Option (NS) :=
  nn (n 4 v0 1) <|
  dx n (n 4 v0 1) 1 (n 4 v0 2) <|
  st (nw n 99 (n 4 v0 1) (n 4 v0 2) (Int.bmod v1 256)) fun n4 =>
  ck ((n4 4 v0 2) + 1) <|
  st (nw n4 4 v0 2 ((n4 4 v0 2) + 1)) fun n10 =>
  some n10
theorem fk_Bytes_add_44 {w y : Prop} {g : g_S} {n : NS} {m : YS} (hw : w) {xv0 : Nat} {v0 : Int} (ev0 : xv0 = aBy v0) (rv0 : 0 ≤ v0 ∧ v0 ≤ 631) {xv1 : Int32} {v1 : Int} (ev1 : xv1 = Int32.ofInt v1) (rv1 : inR v1) (hR : RC w y g n m) : Rf (fun a b => RC w y a b m) (k_Bytes_add_44 xv0 xv1 g) (nk_Bytes_add_44 v0 v1 n) := by
  subst ev0
  subst ev1
  unfold k_Bytes_add_44 nk_Bytes_add_44
  refine c_D (s := 1) hR (ce_by hR hw rv0) rfl rfl rfl (fun h1 => ?_)
  refine c_I (s := 2) hR (ce_by hR hw rv0) rfl rfl (fun h2 => ?_)
  refine e_B hR h1 rfl h2 (e_b rfl) b_b (fun g6 n4 hR5 => ?_)
  refine c_I (s := 2) hR5 (ce_by hR5 hw rv0) rfl rfl (fun h7 => ?_)
  refine rf_ck (fun h8 => ?_)
  refine p_I (s := 2) hR5 (ce_by hR5 hw rv0) rfl ⟨rfl, rfl, by decide⟩ (e_add rfl (e_n 1)) h8 (fun g12 n10 hR11 => ?_)
  exact rf_ok (by exact hR11)
noncomputable def N_Bytes_add (v0 : Int) (v1 : Int) (n : NS) : Option (NS) :=
  if (n 4 v0 2) < (n 4 v0 0) then
    nn (n 4 v0 1) <|
    ty n (n 4 v0 1) 1 <|
    ck (n 93 0 (n 4 v0 1)) <|
    if (n 4 v0 2) = (n 93 0 (n 4 v0 1)) then
      nn (n 4 v0 1) <|
      ck (2 * (n 4 v0 2)) <|
      ck ((2 * (n 4 v0 2)) + 16) <|
      (N_Arrays_copyOf (n 4 v0 1) ((2 * (n 4 v0 2)) + 16) n).bind <| u2 fun z14 n17 =>
      st (nw n17 4 v0 1 z14) fun n21 =>
      nk_Bytes_add_44 v0 v1 n21
    else
      nk_Bytes_add_44 v0 v1 n
  else
    some n
theorem f_Bytes_add {w y : Prop} {g : g_S} {n : NS} {m : YS} (hw : w) {xv0 : Nat} {v0 : Int} (ev0 : xv0 = aBy v0) (rv0 : 0 ≤ v0 ∧ v0 ≤ 631) {xv1 : Int32} {v1 : Int} (ev1 : xv1 = Int32.ofInt v1) (rv1 : inR v1) (hR : RC w y g n m) : Rf (fun a b => RC w y a b m) (M_Bytes_add xv0 xv1 g) (N_Bytes_add v0 v1 n) := by
  subst ev0
  subst ev1
  unfold M_Bytes_add N_Bytes_add
  refine c_I (s := 2) hR (ce_by hR hw rv0) rfl rfl (fun h1 => ?_)
  refine c_I (s := 0) hR (ce_by hR hw rv0) rfl rfl (fun h2 => ?_)
  refine rf_lt rfl rfl h1 h2 ?_ ?_
  · refine c_I (s := 2) hR (ce_by hR hw rv0) rfl rfl (fun h4 => ?_)
    refine c_D (s := 1) hR (ce_by hR hw rv0) rfl rfl rfl (fun h5 => ?_)
    refine d_N (t := 1) hR h5 (by decide) (fun h6 h7 => ?_)
    refine rf_eq rfl rfl h4 h6 ?_ ?_
    · refine c_D (s := 1) hR (ce_by hR hw rv0) rfl rfl rfl (fun h9 => ?_)
      refine c_I (s := 2) hR (ce_by hR hw rv0) rfl rfl (fun h10 => ?_)
      refine rf_ck (fun h11 => ?_)
      refine rf_ck (fun h12 => ?_)
      refine rf_c2 (f_Arrays_copyOf rfl h9 (e_add (e_mul (e_n 2) rfl) (e_n 16)) h12 hR) (fun a16 g19 b h => ?_)
      obtain ⟨z14, n17⟩ := b
      refine rf_v2 ?_
      obtain ⟨rfl, r15⟩ := (show RD a16 z14 from h.1)
      have hR18 : RC w y g19 n17 m := h.2
      refine p_R (s := 1) (a := _) hR18 (ce_by hR18 hw rv0) rfl rfl rfl (rc_d r15) (fun g23 n21 hR22 => ?_)
      exact fk_Bytes_add_44 hw rfl rv0 rfl rv1 hR22
    · exact fk_Bytes_add_44 hw rfl rv0 rfl rv1 hR
  · exact rf_ok (by exact hR)
noncomputable def nb_Bytes_addText_2 (v0 : Int) (v1 : Nat) (v2 : Int) (n : NS) : Option ((Int × NS) ⊕ (NS)) :=
  (sN v1).bind fun z2 =>
  if v2 < z2 then
    (sC v1 v2).bind fun z6 =>
    (N_Bytes_add v0 z6 n).bind fun n9 =>
    ck (v2 + 1) <|
    some (.inl (v2 + 1, n9))
  else
    some (.inr n)
theorem fb_Bytes_addText_2 {w y : Prop} {g : g_S} {n : NS} {m : YS} (hw : w) {xv0 : Nat} {v0 : Int} (ev0 : xv0 = aBy v0) (rv0 : 0 ≤ v0 ∧ v0 ≤ 631) {v1 : Nat} {xv2 : Int32} {v2 : Int} (ev2 : xv2 = Int32.ofInt v2) (rv2 : inR v2) (hR : RC w y g n m) : Rf (RS (fun a b => RI a.1 b.1 ∧ RC w y a.2 b.2 m) (fun a b => RC w y a b m)) (b_Bytes_addText_2 xv0 v1 xv2 g) (nb_Bytes_addText_2 v0 v1 v2 n) := by
  subst ev0
  subst ev2
  unfold b_Bytes_addText_2 nb_Bytes_addText_2
  refine t_N (fun z2 r3 => ?_)
  refine rf_lt rfl rfl rv2 r3 ?_ ?_
  · refine t_C rfl rv2 (fun z6 r7 _ _ => ?_)
    refine v_c (ce_by hR hw rv0).1 ?_
    refine rf_bind (f_Bytes_add hw rfl rv0 rfl r7 hR) (fun g11 n9 hR10 => ?_)
    refine rf_ck (fun h12 => ?_)
    exact rf_ok (by exact ⟨⟨(e_add rfl (e_n 1)), h12⟩, hR10⟩)
  · exact rf_ok (by exact hR)
noncomputable def NL_Bytes_addText_2 (v0 : Int) (v1 : Nat) (v2 : Int) (n : NS) : Option (NS) :=
  it (fun s : Int × NS => nb_Bytes_addText_2 v0 v1 s.1 s.2) (v2, n)
theorem fL_Bytes_addText_2 {w y : Prop} {g : g_S} {n : NS} {m : YS} (hw : w) {xv0 : Nat} {v0 : Int} (ev0 : xv0 = aBy v0) (rv0 : 0 ≤ v0 ∧ v0 ≤ 631) {v1 : Nat} {xv2 : Int32} {v2 : Int} (ev2 : xv2 = Int32.ofInt v2) (rv2 : inR v2) (hR : RC w y g n m) : Rf (fun a b => RC w y a b m) (L_Bytes_addText_2 xv0 v1 xv2 g) (NL_Bytes_addText_2 v0 v1 v2 n) := by
  subst ev0
  subst ev2
  unfold L_Bytes_addText_2 NL_Bytes_addText_2
  refine rf_it (I := (fun a b => RI a.1 b.1 ∧ RC w y a.2 b.2 m)) (fun s t h => ?_) ⟨⟨rfl, rv2⟩, hR⟩
  exact fb_Bytes_addText_2 hw rfl rv0 h.1.1 h.1.2 h.2
theorem NL_Bytes_addText_2_eq (v0 : Int) (v1 : Nat) (v2 : Int) (n : NS) : NL_Bytes_addText_2 v0 v1 v2 n = itc (nb_Bytes_addText_2 v0 v1 v2 n) (fun s => NL_Bytes_addText_2 v0 v1 s.1 s.2) := it_eq2 (fun s : Int × NS => nb_Bytes_addText_2 v0 v1 s.1 s.2) (v2, n)
noncomputable def N_Bytes_addText (v0 : Int) (v1 : Nat) (n : NS) : Option (NS) :=
  (NL_Bytes_addText_2 v0 v1 0 n).bind <| fun n1 =>
  some n1
theorem f_Bytes_addText {w y : Prop} {g : g_S} {n : NS} {m : YS} (hw : w) {xv0 : Nat} {v0 : Int} (ev0 : xv0 = aBy v0) (rv0 : 0 ≤ v0 ∧ v0 ≤ 631) {v1 : Nat} (hR : RC w y g n m) : Rf (fun a b => RC w y a b m) (M_Bytes_addText xv0 v1 g) (N_Bytes_addText v0 v1 n) := by
  subst ev0
  unfold M_Bytes_addText N_Bytes_addText
  refine rf_bind (fL_Bytes_addText_2 hw rfl rv0 (e_n 0) (show inR 0 by decide) hR) (fun a2 n1 h => ?_)
  have hR3 : RC w y a2 n1 m := h
  exact rf_ok (by exact hR3)
noncomputable def nb_Bytes_stands_15 (v0 : Nat) (v1 : Int) (v2 : Int) (v4 : Int) (n : NS) : Option ((Int) ⊕ ((Unit) ⊕ (Unit))) :=
  (sN v0).bind fun z2 =>
  if v4 < z2 then
    ck (v2 + v4) <|
    dx n v1 1 (v2 + v4) <|
    (sC v0 v4).bind fun z9 =>
    if (n 99 v1 (v2 + v4)) = z9 then
      ck (v4 + 1) <|
      some (.inl (v4 + 1))
    else
      some (.inr (.inl ()))
  else
    some (.inr (.inr ()))
theorem fb_Bytes_stands_15 {w y : Prop} {g : g_S} {n : NS} {m : YS} {v0 : Nat} {xv1 : Nat} {v1 : Int} (ev1 : xv1 = Int.toNat v1) (rv1 : 0 ≤ v1 ∧ lc (Int.toNat v1) = (99, v1)) {xv2 : Int32} {v2 : Int} (ev2 : xv2 = Int32.ofInt v2) (rv2 : inR v2) {xv4 : Int32} {v4 : Int} (ev4 : xv4 = Int32.ofInt v4) (rv4 : inR v4) (hR : RC w y g n m) : Rf (RS (fun a b => RI a b) (RS (fun _ _ => True) (fun _ _ => True))) (b_Bytes_stands_15 v0 xv1 xv2 xv4 g) (nb_Bytes_stands_15 v0 v1 v2 v4 n) := by
  subst ev1
  subst ev2
  subst ev4
  unfold b_Bytes_stands_15 nb_Bytes_stands_15
  refine t_N (fun z2 r3 => ?_)
  refine rf_lt rfl rfl rv4 r3 ?_ ?_
  · refine rf_ck (fun h5 => ?_)
    refine d_B hR rv1 (e_add rfl rfl) h5 (fun h6 h7 => ?_)
    refine t_C rfl rv4 (fun z9 r10 _ _ => ?_)
    refine rf_eq rfl rfl (inB.r h7) r10 ?_ ?_
    · refine rf_ck (fun h12 => ?_)
      exact rf_ok (by exact ⟨(e_add rfl (e_n 1)), h12⟩)
    · exact rf_ok (by exact trivial)
  · exact rf_ok (by exact trivial)
noncomputable def NL_Bytes_stands_15 (v0 : Nat) (v1 : Int) (v2 : Int) (v4 : Int) (n : NS) : Option ((Unit) ⊕ (Unit)) :=
  it (fun s : Int => nb_Bytes_stands_15 v0 v1 v2 s n) (v4)
theorem fL_Bytes_stands_15 {w y : Prop} {g : g_S} {n : NS} {m : YS} {v0 : Nat} {xv1 : Nat} {v1 : Int} (ev1 : xv1 = Int.toNat v1) (rv1 : 0 ≤ v1 ∧ lc (Int.toNat v1) = (99, v1)) {xv2 : Int32} {v2 : Int} (ev2 : xv2 = Int32.ofInt v2) (rv2 : inR v2) {xv4 : Int32} {v4 : Int} (ev4 : xv4 = Int32.ofInt v4) (rv4 : inR v4) (hR : RC w y g n m) : Rf (RS (fun _ _ => True) (fun _ _ => True)) (L_Bytes_stands_15 v0 xv1 xv2 xv4 g) (NL_Bytes_stands_15 v0 v1 v2 v4 n) := by
  subst ev1
  subst ev2
  subst ev4
  unfold L_Bytes_stands_15 NL_Bytes_stands_15
  refine rf_it (I := (fun a b => RI a b)) (fun s t h => ?_) ⟨rfl, rv4⟩
  exact fb_Bytes_stands_15 rfl rv1 rfl rv2 h.1 h.2 hR
theorem NL_Bytes_stands_15_eq (v0 : Nat) (v1 : Int) (v2 : Int) (v4 : Int) (n : NS) : NL_Bytes_stands_15 v0 v1 v2 v4 n = itc (nb_Bytes_stands_15 v0 v1 v2 v4 n) (fun s => NL_Bytes_stands_15 v0 v1 v2 s n) := it_eq2 (fun s : Int => nb_Bytes_stands_15 v0 v1 v2 s n) (v4)
noncomputable def N_Bytes_stands (v0 : Nat) (v1 : Int) (v2 : Int) (v3 : Int) (n : NS) : Option (Int) :=
  (sN v0).bind fun z2 =>
  ck (v3 - v2) <|
  if (v3 - v2) < z2 then
    some 0
  else
    (NL_Bytes_stands_15 v0 v1 v2 0 n).bind <|
      us (fun _ =>
      some 0)
      (fun _ =>
      some 1)
theorem f_Bytes_stands {w y : Prop} {g : g_S} {n : NS} {m : YS} {v0 : Nat} {xv1 : Nat} {v1 : Int} (ev1 : xv1 = Int.toNat v1) (rv1 : 0 ≤ v1 ∧ lc (Int.toNat v1) = (99, v1)) {xv2 : Int32} {v2 : Int} (ev2 : xv2 = Int32.ofInt v2) (rv2 : inR v2) {xv3 : Int32} {v3 : Int} (ev3 : xv3 = Int32.ofInt v3) (rv3 : inR v3) (hR : RC w y g n m) : Rf (fun a b => RZ a b) (M_Bytes_stands v0 xv1 xv2 xv3 g) (N_Bytes_stands v0 v1 v2 v3 n) := by
  subst ev1
  subst ev2
  subst ev3
  unfold M_Bytes_stands N_Bytes_stands
  refine t_N (fun z2 r3 => ?_)
  refine rf_ck (fun h4 => ?_)
  refine rf_lt (e_sub rfl rfl) rfl h4 r3 ?_ ?_
  · exact rf_ok (by exact ⟨(e_n 0), (.inl rfl)⟩)
  · refine rf_bind (fL_Bytes_stands_15 rfl rv1 rfl rv2 (e_n 0) (show inR 0 by decide) hR) (fun a b h => rf_us h (fun a b h => ?_) (fun a b h => ?_))
    · exact rf_ok (by exact ⟨(e_n 0), (.inl rfl)⟩)
    · exact rf_ok (by exact ⟨(e_n 1), (.inr rfl)⟩)
noncomputable def nk_Bytes_nameEnd_59 (v0 : Int) (v1 : Int) (v2 : Int) (v3 : Int) (v4 : Int) (w0 : Int) (n : NS) : Option ((Int) ⊕ ((Int) ⊕ (Int))) :=
  if v4 = 0 then
    if w0 = 0 then
      some (.inr (.inl v3))
    else
      if v3 = v1 then
        some (.inr (.inl v3))
      else
        ck (v3 + 1) <|
        some (.inl (v3 + 1))
  else
    ck (v3 + 1) <|
    some (.inl (v3 + 1))
theorem fk_Bytes_nameEnd_59 {w y : Prop} {g : g_S} {n : NS} {m : YS} {xv0 : Nat} {v0 : Int} (ev0 : xv0 = Int.toNat v0) (rv0 : 0 ≤ v0 ∧ lc (Int.toNat v0) = (99, v0)) {xv1 : Int32} {v1 : Int} (ev1 : xv1 = Int32.ofInt v1) (rv1 : inR v1) {xv2 : Int32} {v2 : Int} (ev2 : xv2 = Int32.ofInt v2) (rv2 : inR v2) {xv3 : Int32} {v3 : Int} (ev3 : xv3 = Int32.ofInt v3) (rv3 : inR v3) {xv4 : Int32} {v4 : Int} (ev4 : xv4 = Int32.ofInt v4) (rv4 : inR v4) {xw0 : Int32} {w0 : Int} (ew0 : xw0 = Int32.ofInt w0) (rw0 : inR w0) (hR : RC w y g n m) : Rf (RS (fun a b => RI a b) (RS (fun a b => RI a b) (fun a b => RI a b))) (k_Bytes_nameEnd_59 xv0 xv1 xv2 xv3 xv4 xw0 g) (nk_Bytes_nameEnd_59 v0 v1 v2 v3 v4 w0 n) := by
  subst ev0
  subst ev1
  subst ev2
  subst ev3
  subst ev4
  subst ew0
  unfold k_Bytes_nameEnd_59 nk_Bytes_nameEnd_59
  refine rf_eq rfl (e_n 0) rv4 (show inR 0 by decide) ?_ ?_
  · refine rf_eq rfl (e_n 0) rw0 (show inR 0 by decide) ?_ ?_
    · exact rf_ok (by exact ⟨rfl, rv3⟩)
    · refine rf_eq rfl rfl rv3 rv1 ?_ ?_
      · exact rf_ok (by exact ⟨rfl, rv3⟩)
      · refine rf_ck (fun h4 => ?_)
        exact rf_ok (by exact ⟨(e_add rfl (e_n 1)), h4⟩)
  · refine rf_ck (fun h5 => ?_)
    exact rf_ok (by exact ⟨(e_add rfl (e_n 1)), h5⟩)
noncomputable def nk_Bytes_nameEnd_58 (v0 : Int) (v1 : Int) (v2 : Int) (v3 : Int) (v4 : Int) (n : NS) : Option ((Int) ⊕ ((Int) ⊕ (Int))) :=
  nk_Bytes_nameEnd_59 v0 v1 v2 v3 v4 0 n
theorem fk_Bytes_nameEnd_58 {w y : Prop} {g : g_S} {n : NS} {m : YS} {xv0 : Nat} {v0 : Int} (ev0 : xv0 = Int.toNat v0) (rv0 : 0 ≤ v0 ∧ lc (Int.toNat v0) = (99, v0)) {xv1 : Int32} {v1 : Int} (ev1 : xv1 = Int32.ofInt v1) (rv1 : inR v1) {xv2 : Int32} {v2 : Int} (ev2 : xv2 = Int32.ofInt v2) (rv2 : inR v2) {xv3 : Int32} {v3 : Int} (ev3 : xv3 = Int32.ofInt v3) (rv3 : inR v3) {xv4 : Int32} {v4 : Int} (ev4 : xv4 = Int32.ofInt v4) (rv4 : inR v4) (hR : RC w y g n m) : Rf (RS (fun a b => RI a b) (RS (fun a b => RI a b) (fun a b => RI a b))) (k_Bytes_nameEnd_58 xv0 xv1 xv2 xv3 xv4 g) (nk_Bytes_nameEnd_58 v0 v1 v2 v3 v4 n) := by
  subst ev0
  subst ev1
  subst ev2
  subst ev3
  subst ev4
  unfold k_Bytes_nameEnd_58 nk_Bytes_nameEnd_58
  exact fk_Bytes_nameEnd_59 rfl rv0 rfl rv1 rfl rv2 rfl rv3 rfl rv4 (e_n 0) (show inR 0 by decide) hR
noncomputable def nk_Bytes_nameEnd_36 (v0 : Int) (v1 : Int) (v2 : Int) (v3 : Int) (w0 : Int) (n : NS) : Option ((Int) ⊕ ((Int) ⊕ (Int))) :=
  dx n v0 1 v3 <|
  if (n 99 v0 v3) < 48 then
    nk_Bytes_nameEnd_58 v0 v1 v2 v3 w0 n
  else
    dx n v0 1 v3 <|
    if 57 < (n 99 v0 v3) then
      nk_Bytes_nameEnd_58 v0 v1 v2 v3 w0 n
    else
      nk_Bytes_nameEnd_59 v0 v1 v2 v3 w0 1 n
theorem fk_Bytes_nameEnd_36 {w y : Prop} {g : g_S} {n : NS} {m : YS} {xv0 : Nat} {v0 : Int} (ev0 : xv0 = Int.toNat v0) (rv0 : 0 ≤ v0 ∧ lc (Int.toNat v0) = (99, v0)) {xv1 : Int32} {v1 : Int} (ev1 : xv1 = Int32.ofInt v1) (rv1 : inR v1) {xv2 : Int32} {v2 : Int} (ev2 : xv2 = Int32.ofInt v2) (rv2 : inR v2) {xv3 : Int32} {v3 : Int} (ev3 : xv3 = Int32.ofInt v3) (rv3 : inR v3) {xw0 : Int32} {w0 : Int} (ew0 : xw0 = Int32.ofInt w0) (rw0 : inR w0) (hR : RC w y g n m) : Rf (RS (fun a b => RI a b) (RS (fun a b => RI a b) (fun a b => RI a b))) (k_Bytes_nameEnd_36 xv0 xv1 xv2 xv3 xw0 g) (nk_Bytes_nameEnd_36 v0 v1 v2 v3 w0 n) := by
  subst ev0
  subst ev1
  subst ev2
  subst ev3
  subst ew0
  unfold k_Bytes_nameEnd_36 nk_Bytes_nameEnd_36
  refine d_B hR rv0 rfl rv3 (fun h1 h2 => ?_)
  refine rf_lt rfl (e_n 48) (inB.r h2) (show inR 48 by decide) ?_ ?_
  · exact fk_Bytes_nameEnd_58 rfl rv0 rfl rv1 rfl rv2 rfl rv3 rfl rw0 hR
  · refine d_B hR rv0 rfl rv3 (fun h4 h5 => ?_)
    refine rf_lt (e_n 57) rfl (show inR 57 by decide) (inB.r h5) ?_ ?_
    · exact fk_Bytes_nameEnd_58 rfl rv0 rfl rv1 rfl rv2 rfl rv3 rfl rw0 hR
    · exact fk_Bytes_nameEnd_59 rfl rv0 rfl rv1 rfl rv2 rfl rv3 rfl rw0 (e_n 1) (show inR 1 by decide) hR
noncomputable def nk_Bytes_nameEnd_35 (v0 : Int) (v1 : Int) (v2 : Int) (v3 : Int) (n : NS) : Option ((Int) ⊕ ((Int) ⊕ (Int))) :=
  nk_Bytes_nameEnd_36 v0 v1 v2 v3 0 n
theorem fk_Bytes_nameEnd_35 {w y : Prop} {g : g_S} {n : NS} {m : YS} {xv0 : Nat} {v0 : Int} (ev0 : xv0 = Int.toNat v0) (rv0 : 0 ≤ v0 ∧ lc (Int.toNat v0) = (99, v0)) {xv1 : Int32} {v1 : Int} (ev1 : xv1 = Int32.ofInt v1) (rv1 : inR v1) {xv2 : Int32} {v2 : Int} (ev2 : xv2 = Int32.ofInt v2) (rv2 : inR v2) {xv3 : Int32} {v3 : Int} (ev3 : xv3 = Int32.ofInt v3) (rv3 : inR v3) (hR : RC w y g n m) : Rf (RS (fun a b => RI a b) (RS (fun a b => RI a b) (fun a b => RI a b))) (k_Bytes_nameEnd_35 xv0 xv1 xv2 xv3 g) (nk_Bytes_nameEnd_35 v0 v1 v2 v3 n) := by
  subst ev0
  subst ev1
  subst ev2
  subst ev3
  unfold k_Bytes_nameEnd_35 nk_Bytes_nameEnd_35
  exact fk_Bytes_nameEnd_36 rfl rv0 rfl rv1 rfl rv2 rfl rv3 (e_n 0) (show inR 0 by decide) hR
noncomputable def nb_Bytes_nameEnd_2 (v0 : Int) (v1 : Int) (v2 : Int) (v3 : Int) (n : NS) : Option ((Int) ⊕ ((Int) ⊕ (Int))) :=
  if v3 < v2 then
    ck (v1 + 8) <|
    if v3 < (v1 + 8) then
      dx n v0 1 v3 <|
      if (n 99 v0 v3) < 97 then
        nk_Bytes_nameEnd_35 v0 v1 v2 v3 n
      else
        dx n v0 1 v3 <|
        if 122 < (n 99 v0 v3) then
          nk_Bytes_nameEnd_35 v0 v1 v2 v3 n
        else
          nk_Bytes_nameEnd_36 v0 v1 v2 v3 1 n
    else
      some (.inr (.inr v3))
  else
    some (.inr (.inr v3))
theorem fb_Bytes_nameEnd_2 {w y : Prop} {g : g_S} {n : NS} {m : YS} {xv0 : Nat} {v0 : Int} (ev0 : xv0 = Int.toNat v0) (rv0 : 0 ≤ v0 ∧ lc (Int.toNat v0) = (99, v0)) {xv1 : Int32} {v1 : Int} (ev1 : xv1 = Int32.ofInt v1) (rv1 : inR v1) {xv2 : Int32} {v2 : Int} (ev2 : xv2 = Int32.ofInt v2) (rv2 : inR v2) {xv3 : Int32} {v3 : Int} (ev3 : xv3 = Int32.ofInt v3) (rv3 : inR v3) (hR : RC w y g n m) : Rf (RS (fun a b => RI a b) (RS (fun a b => RI a b) (fun a b => RI a b))) (b_Bytes_nameEnd_2 xv0 xv1 xv2 xv3 g) (nb_Bytes_nameEnd_2 v0 v1 v2 v3 n) := by
  subst ev0
  subst ev1
  subst ev2
  subst ev3
  unfold b_Bytes_nameEnd_2 nb_Bytes_nameEnd_2
  refine rf_lt rfl rfl rv3 rv2 ?_ ?_
  · refine rf_ck (fun h2 => ?_)
    refine rf_lt rfl (e_add rfl (e_n 8)) rv3 h2 ?_ ?_
    · refine d_B hR rv0 rfl rv3 (fun h4 h5 => ?_)
      refine rf_lt rfl (e_n 97) (inB.r h5) (show inR 97 by decide) ?_ ?_
      · exact fk_Bytes_nameEnd_35 rfl rv0 rfl rv1 rfl rv2 rfl rv3 hR
      · refine d_B hR rv0 rfl rv3 (fun h7 h8 => ?_)
        refine rf_lt (e_n 122) rfl (show inR 122 by decide) (inB.r h8) ?_ ?_
        · exact fk_Bytes_nameEnd_35 rfl rv0 rfl rv1 rfl rv2 rfl rv3 hR
        · exact fk_Bytes_nameEnd_36 rfl rv0 rfl rv1 rfl rv2 rfl rv3 (e_n 1) (show inR 1 by decide) hR
    · exact rf_ok (by exact ⟨rfl, rv3⟩)
  · exact rf_ok (by exact ⟨rfl, rv3⟩)
noncomputable def NL_Bytes_nameEnd_2 (v0 : Int) (v1 : Int) (v2 : Int) (v3 : Int) (n : NS) : Option ((Int) ⊕ (Int)) :=
  it (fun s : Int => nb_Bytes_nameEnd_2 v0 v1 v2 s n) (v3)
theorem fL_Bytes_nameEnd_2 {w y : Prop} {g : g_S} {n : NS} {m : YS} {xv0 : Nat} {v0 : Int} (ev0 : xv0 = Int.toNat v0) (rv0 : 0 ≤ v0 ∧ lc (Int.toNat v0) = (99, v0)) {xv1 : Int32} {v1 : Int} (ev1 : xv1 = Int32.ofInt v1) (rv1 : inR v1) {xv2 : Int32} {v2 : Int} (ev2 : xv2 = Int32.ofInt v2) (rv2 : inR v2) {xv3 : Int32} {v3 : Int} (ev3 : xv3 = Int32.ofInt v3) (rv3 : inR v3) (hR : RC w y g n m) : Rf (RS (fun a b => RI a b) (fun a b => RI a b)) (L_Bytes_nameEnd_2 xv0 xv1 xv2 xv3 g) (NL_Bytes_nameEnd_2 v0 v1 v2 v3 n) := by
  subst ev0
  subst ev1
  subst ev2
  subst ev3
  unfold L_Bytes_nameEnd_2 NL_Bytes_nameEnd_2
  refine rf_it (I := (fun a b => RI a b)) (fun s t h => ?_) ⟨rfl, rv3⟩
  exact fb_Bytes_nameEnd_2 rfl rv0 rfl rv1 rfl rv2 h.1 h.2 hR
theorem NL_Bytes_nameEnd_2_eq (v0 : Int) (v1 : Int) (v2 : Int) (v3 : Int) (n : NS) : NL_Bytes_nameEnd_2 v0 v1 v2 v3 n = itc (nb_Bytes_nameEnd_2 v0 v1 v2 v3 n) (fun s => NL_Bytes_nameEnd_2 v0 v1 v2 s n) := it_eq2 (fun s : Int => nb_Bytes_nameEnd_2 v0 v1 v2 s n) (v3)
noncomputable def N_Bytes_nameEnd (v0 : Int) (v1 : Int) (v2 : Int) (n : NS) : Option (Int) :=
  (NL_Bytes_nameEnd_2 v0 v1 v2 v1 n).bind <|
    us (fun z1 =>
    some z1)
    (fun z5 =>
    some z5)
theorem f_Bytes_nameEnd {w y : Prop} {g : g_S} {n : NS} {m : YS} {xv0 : Nat} {v0 : Int} (ev0 : xv0 = Int.toNat v0) (rv0 : 0 ≤ v0 ∧ lc (Int.toNat v0) = (99, v0)) {xv1 : Int32} {v1 : Int} (ev1 : xv1 = Int32.ofInt v1) (rv1 : inR v1) {xv2 : Int32} {v2 : Int} (ev2 : xv2 = Int32.ofInt v2) (rv2 : inR v2) (hR : RC w y g n m) : Rf (fun a b => RI a b) (M_Bytes_nameEnd xv0 xv1 xv2 g) (N_Bytes_nameEnd v0 v1 v2 n) := by
  subst ev0
  subst ev1
  subst ev2
  unfold M_Bytes_nameEnd N_Bytes_nameEnd
  refine rf_bind (fL_Bytes_nameEnd_2 rfl rv0 rfl rv1 rfl rv2 rfl rv1 hR) (fun a b h => rf_us h (fun a2 z1 h => ?_) (fun a6 z5 h => ?_))
  · obtain ⟨rfl, r3⟩ := (show RI a2 z1 from h)
    exact rf_ok (by exact ⟨rfl, r3⟩)
  · obtain ⟨rfl, r7⟩ := (show RI a6 z5 from h)
    exact rf_ok (by exact ⟨rfl, r7⟩)
noncomputable def N_Bytes_isName (v0 : Int) (v1 : Int) (v2 : Int) (n : NS) : Option (Int) :=
  if v1 < v2 then
    (N_Bytes_nameEnd v0 v1 v2 n).bind fun z3 =>
    if z3 = v2 then
      some 1
    else
      some 0
  else
    some 0
theorem f_Bytes_isName {w y : Prop} {g : g_S} {n : NS} {m : YS} {xv0 : Nat} {v0 : Int} (ev0 : xv0 = Int.toNat v0) (rv0 : 0 ≤ v0 ∧ lc (Int.toNat v0) = (99, v0)) {xv1 : Int32} {v1 : Int} (ev1 : xv1 = Int32.ofInt v1) (rv1 : inR v1) {xv2 : Int32} {v2 : Int} (ev2 : xv2 = Int32.ofInt v2) (rv2 : inR v2) (hR : RC w y g n m) : Rf (fun a b => RZ a b) (M_Bytes_isName xv0 xv1 xv2 g) (N_Bytes_isName v0 v1 v2 n) := by
  subst ev0
  subst ev1
  subst ev2
  unfold M_Bytes_isName N_Bytes_isName
  refine rf_lt rfl rfl rv1 rv2 ?_ ?_
  · refine rf_bind (f_Bytes_nameEnd rfl rv0 rfl rv1 rfl rv2 hR) (fun a5 z3 h => ?_)
    obtain ⟨rfl, r4⟩ := h
    refine rf_eq rfl rfl r4 rv2 ?_ ?_
    · exact rf_ok (by exact ⟨(e_n 1), (.inr rfl)⟩)
    · exact rf_ok (by exact ⟨(e_n 0), (.inl rfl)⟩)
  · exact rf_ok (by exact ⟨(e_n 0), (.inl rfl)⟩)
noncomputable def nb_Bytes_pack_5 (v0 : Int) (v1 : Int) (v2 : Int) (v3 : Int) (v5 : Int) (n : NS) : Option ((Int × Int) ⊕ (Int)) :=
  if v5 < v2 then
    ck (v1 + 8) <|
    if v5 < (v1 + 8) then
      ckL (v3 * 256) <|
      dx n v0 1 v5 <|
      or8 (v3 * 256) (n 99 v0 v5) <|
      ckL ((v3 * 256) + (n 99 v0 v5)) <|
      ck (v5 + 1) <|
      some (.inl ((v3 * 256) + (n 99 v0 v5), v5 + 1))
    else
      some (.inr v3)
  else
    some (.inr v3)
theorem fb_Bytes_pack_5 {w y : Prop} {g : g_S} {n : NS} {m : YS} {xv0 : Nat} {v0 : Int} (ev0 : xv0 = Int.toNat v0) (rv0 : 0 ≤ v0 ∧ lc (Int.toNat v0) = (99, v0)) {xv1 : Int32} {v1 : Int} (ev1 : xv1 = Int32.ofInt v1) (rv1 : inR v1) {xv2 : Int32} {v2 : Int} (ev2 : xv2 = Int32.ofInt v2) (rv2 : inR v2) {xv3 : Int64} {v3 : Int} (ev3 : xv3 = Int64.ofInt v3) (rv3 : inL v3) {xv5 : Int32} {v5 : Int} (ev5 : xv5 = Int32.ofInt v5) (rv5 : inR v5) (hR : RC w y g n m) : Rf (RS (fun a b => RJ a.1 b.1 ∧ RI a.2 b.2) (fun a b => RJ a b)) (b_Bytes_pack_5 xv0 xv1 xv2 xv3 xv5 g) (nb_Bytes_pack_5 v0 v1 v2 v3 v5 n) := by
  subst ev0
  subst ev1
  subst ev2
  subst ev3
  subst ev5
  unfold b_Bytes_pack_5 nb_Bytes_pack_5
  refine rf_lt rfl rfl rv5 rv2 ?_ ?_
  · refine rf_ck (fun h2 => ?_)
    refine rf_lt rfl (e_add rfl (e_n 8)) rv5 h2 ?_ ?_
    · refine rf_ckL (fun h4 => ?_)
      refine d_B hR rv0 rfl rv5 (fun h5 h6 => ?_)
      refine rf_or8 (fun h7 => ?_)
      refine rf_ckL (fun h8 => ?_)
      refine rf_ck (fun h9 => ?_)
      exact rf_ok (by exact ⟨⟨(f_or8 (f_shl8 rfl) (f_i2l rfl (inB.r h6)) h7), h8⟩, ⟨(e_add rfl (e_n 1)), h9⟩⟩)
    · exact rf_ok (by exact ⟨rfl, rv3⟩)
  · exact rf_ok (by exact ⟨rfl, rv3⟩)
noncomputable def NL_Bytes_pack_5 (v0 : Int) (v1 : Int) (v2 : Int) (v3 : Int) (v5 : Int) (n : NS) : Option (Int) :=
  it (fun s : Int × Int => nb_Bytes_pack_5 v0 v1 v2 s.1 s.2 n) (v3, v5)
theorem fL_Bytes_pack_5 {w y : Prop} {g : g_S} {n : NS} {m : YS} {xv0 : Nat} {v0 : Int} (ev0 : xv0 = Int.toNat v0) (rv0 : 0 ≤ v0 ∧ lc (Int.toNat v0) = (99, v0)) {xv1 : Int32} {v1 : Int} (ev1 : xv1 = Int32.ofInt v1) (rv1 : inR v1) {xv2 : Int32} {v2 : Int} (ev2 : xv2 = Int32.ofInt v2) (rv2 : inR v2) {xv3 : Int64} {v3 : Int} (ev3 : xv3 = Int64.ofInt v3) (rv3 : inL v3) {xv5 : Int32} {v5 : Int} (ev5 : xv5 = Int32.ofInt v5) (rv5 : inR v5) (hR : RC w y g n m) : Rf (fun a b => RJ a b) (L_Bytes_pack_5 xv0 xv1 xv2 xv3 xv5 g) (NL_Bytes_pack_5 v0 v1 v2 v3 v5 n) := by
  subst ev0
  subst ev1
  subst ev2
  subst ev3
  subst ev5
  unfold L_Bytes_pack_5 NL_Bytes_pack_5
  refine rf_it (I := (fun a b => RJ a.1 b.1 ∧ RI a.2 b.2)) (fun s t h => ?_) ⟨⟨rfl, rv3⟩, ⟨rfl, rv5⟩⟩
  exact fb_Bytes_pack_5 rfl rv0 rfl rv1 rfl rv2 h.1.1 h.1.2 h.2.1 h.2.2 hR
theorem NL_Bytes_pack_5_eq (v0 : Int) (v1 : Int) (v2 : Int) (v3 : Int) (v5 : Int) (n : NS) : NL_Bytes_pack_5 v0 v1 v2 v3 v5 n = itc (nb_Bytes_pack_5 v0 v1 v2 v3 v5 n) (fun s => NL_Bytes_pack_5 v0 v1 v2 s.1 s.2 n) := it_eq2 (fun s : Int × Int => nb_Bytes_pack_5 v0 v1 v2 s.1 s.2 n) (v3, v5)
noncomputable def N_Bytes_pack (v0 : Int) (v1 : Int) (v2 : Int) (n : NS) : Option (Int) :=
  (NL_Bytes_pack_5 v0 v1 v2 0 v1 n).bind <| fun z1 =>
  some z1
theorem f_Bytes_pack {w y : Prop} {g : g_S} {n : NS} {m : YS} {xv0 : Nat} {v0 : Int} (ev0 : xv0 = Int.toNat v0) (rv0 : 0 ≤ v0 ∧ lc (Int.toNat v0) = (99, v0)) {xv1 : Int32} {v1 : Int} (ev1 : xv1 = Int32.ofInt v1) (rv1 : inR v1) {xv2 : Int32} {v2 : Int} (ev2 : xv2 = Int32.ofInt v2) (rv2 : inR v2) (hR : RC w y g n m) : Rf (fun a b => RJ a b) (M_Bytes_pack xv0 xv1 xv2 g) (N_Bytes_pack v0 v1 v2 n) := by
  subst ev0
  subst ev1
  subst ev2
  unfold M_Bytes_pack N_Bytes_pack
  refine rf_bind (fL_Bytes_pack_5 rfl rv0 rfl rv1 rfl rv2 (f_n 0) (show inL 0 by decide) rfl rv1 hR) (fun a2 z1 h => ?_)
  obtain ⟨rfl, r3⟩ := (show RJ a2 z1 from h)
  exact rf_ok (by exact ⟨rfl, r3⟩)
noncomputable def N_Address_takeSite (v0 : Int) (v1 : Int) (v2 : Int) (v3 : Int) (n : NS) : Option (NS) :=
  ty n v0 101 <|
  nn (n 99 v0 0) <|
  ck (v3 - v2) <|
  cpg n 1 v1 v2 (n 99 v0 0) 0 (v3 - v2) <|
  st (nwA n 99 (n 99 v0 0) (cpf (n 99 v1) (n 99 (n 99 v0 0)) v2 0 (v3 - v2))) fun n6 =>
  ck (v3 - v2) <|
  ty n6 v0 101 <|
  st (nw n6 99 v0 2 (v3 - v2)) fun n13 =>
  ty n13 v0 101 <|
  nn (n13 99 v0 0) <|
  ty n13 v0 101 <|
  (N_Bytes_pack (n13 99 v0 0) 2 (n13 99 v0 2) n13).bind fun z23 =>
  ty n13 v0 101 <|
  st (nw n13 99 v0 1 z23) fun n29 =>
  some n29
theorem f_Address_takeSite {w y : Prop} {g : g_S} {n : NS} {m : YS} {xv0 : Nat} {v0 : Int} (ev0 : xv0 = Int.toNat v0) (rv0 : 0 ≤ v0 ∧ lc (Int.toNat v0) = (99, v0)) {xv1 : Nat} {v1 : Int} (ev1 : xv1 = Int.toNat v1) (rv1 : 0 ≤ v1 ∧ lc (Int.toNat v1) = (99, v1)) {xv2 : Int32} {v2 : Int} (ev2 : xv2 = Int32.ofInt v2) (rv2 : inR v2) {xv3 : Int32} {v3 : Int} (ev3 : xv3 = Int32.ofInt v3) (rv3 : inR v3) (hR : RC w y g n m) : Rf (fun a b => RC w y a b m) (M_Address_takeSite xv0 xv1 xv2 xv3 g) (N_Address_takeSite v0 v1 v2 v3 n) := by
  subst ev0
  subst ev1
  subst ev2
  subst ev3
  unfold M_Address_takeSite N_Address_takeSite
  refine rf_ty (t := 101) rv0.1 hR (by decide) (fun h2 h3 => ?_)
  refine c_D (s := 0) hR (ce_dy hR rv0 h3 (by decide)) rfl rfl rfl (fun h1 => ?_)
  refine rf_ck (fun h4 => ?_)
  refine n_cp hR (by decide) rv1 h1 rfl rv2 (e_n 0) (show inR 0 by decide) (e_sub rfl rfl) h4 (fun g8 n6 hR7 => ?_)
  refine rf_ck (fun h9 => ?_)
  refine rf_ty (t := 101) rv0.1 hR7 (by decide) (fun h11 h12 => ?_)
  refine p_I (s := 2) hR7 (ce_dy hR7 rv0 h12 (by decide)) rfl ⟨rfl, rfl, by decide⟩ (e_sub rfl rfl) h9 (fun g15 n13 hR14 => ?_)
  refine rf_ty (t := 101) rv0.1 hR14 (by decide) (fun h17 h18 => ?_)
  refine c_D (s := 0) hR14 (ce_dy hR14 rv0 h18 (by decide)) rfl rfl rfl (fun h16 => ?_)
  refine rf_ty (t := 101) rv0.1 hR14 (by decide) (fun h20 h21 => ?_)
  refine c_I (s := 2) hR14 (ce_dy hR14 rv0 h21 (by decide)) rfl rfl (fun h19 => ?_)
  refine rf_bind (f_Bytes_pack rfl h16 (e_n 2) (show inR 2 by decide) rfl h19 hR14) (fun a25 z23 h => ?_)
  obtain ⟨rfl, r24⟩ := h
  refine rf_ty (t := 101) rv0.1 hR14 (by decide) (fun h27 h28 => ?_)
  refine p_L (s := 1) hR14 (ce_dy hR14 rv0 h28 (by decide)) rfl rfl rfl r24 (fun g31 n29 hR30 => ?_)
  exact rf_ok (by exact hR30)
noncomputable def N_Address_takePath (v0 : Int) (v1 : Int) (v2 : Int) (v3 : Int) (n : NS) : Option (NS) :=
  ty n v0 101 <|
  nn (n 99 v0 0) <|
  ty n v0 101 <|
  ck (v3 - v2) <|
  cpg n 1 v1 v2 (n 99 v0 0) (n 99 v0 2) (v3 - v2) <|
  st (nwA n 99 (n 99 v0 0) (cpf (n 99 v1) (n 99 (n 99 v0 0)) v2 (n 99 v0 2) (v3 - v2))) fun n9 =>
  ty n9 v0 101 <|
  ck ((n9 99 v0 2) + v3) <|
  ck (((n9 99 v0 2) + v3) - v2) <|
  ty n9 v0 101 <|
  st (nw n9 99 v0 3 (((n9 99 v0 2) + v3) - v2)) fun n20 =>
  ty n20 v0 101 <|
  ty n20 v0 101 <|
  st (nw n20 99 v0 5 (n20 99 v0 3)) fun n29 =>
  some n29
theorem f_Address_takePath {w y : Prop} {g : g_S} {n : NS} {m : YS} {xv0 : Nat} {v0 : Int} (ev0 : xv0 = Int.toNat v0) (rv0 : 0 ≤ v0 ∧ lc (Int.toNat v0) = (99, v0)) {xv1 : Nat} {v1 : Int} (ev1 : xv1 = Int.toNat v1) (rv1 : 0 ≤ v1 ∧ lc (Int.toNat v1) = (99, v1)) {xv2 : Int32} {v2 : Int} (ev2 : xv2 = Int32.ofInt v2) (rv2 : inR v2) {xv3 : Int32} {v3 : Int} (ev3 : xv3 = Int32.ofInt v3) (rv3 : inR v3) (hR : RC w y g n m) : Rf (fun a b => RC w y a b m) (M_Address_takePath xv0 xv1 xv2 xv3 g) (N_Address_takePath v0 v1 v2 v3 n) := by
  subst ev0
  subst ev1
  subst ev2
  subst ev3
  unfold M_Address_takePath N_Address_takePath
  refine rf_ty (t := 101) rv0.1 hR (by decide) (fun h2 h3 => ?_)
  refine c_D (s := 0) hR (ce_dy hR rv0 h3 (by decide)) rfl rfl rfl (fun h1 => ?_)
  refine rf_ty (t := 101) rv0.1 hR (by decide) (fun h5 h6 => ?_)
  refine c_I (s := 2) hR (ce_dy hR rv0 h6 (by decide)) rfl rfl (fun h4 => ?_)
  refine rf_ck (fun h7 => ?_)
  refine n_cp hR (by decide) rv1 h1 rfl rv2 rfl h4 (e_sub rfl rfl) h7 (fun g11 n9 hR10 => ?_)
  refine rf_ty (t := 101) rv0.1 hR10 (by decide) (fun h13 h14 => ?_)
  refine c_I (s := 2) hR10 (ce_dy hR10 rv0 h14 (by decide)) rfl rfl (fun h12 => ?_)
  refine rf_ck (fun h15 => ?_)
  refine rf_ck (fun h16 => ?_)
  refine rf_ty (t := 101) rv0.1 hR10 (by decide) (fun h18 h19 => ?_)
  refine p_I (s := 3) hR10 (ce_dy hR10 rv0 h19 (by decide)) rfl ⟨rfl, rfl, by decide⟩ (e_sub (e_add rfl rfl) rfl) h16 (fun g22 n20 hR21 => ?_)
  refine rf_ty (t := 101) rv0.1 hR21 (by decide) (fun h24 h25 => ?_)
  refine c_I (s := 3) hR21 (ce_dy hR21 rv0 h25 (by decide)) rfl rfl (fun h23 => ?_)
  refine rf_ty (t := 101) rv0.1 hR21 (by decide) (fun h27 h28 => ?_)
  refine p_I (s := 5) hR21 (ce_dy hR21 rv0 h28 (by decide)) rfl ⟨rfl, rfl, by decide⟩ rfl h23 (fun g31 n29 hR30 => ?_)
  exact rf_ok (by exact hR30)
noncomputable def nk_Address_isSegmentByte_24 (v0 : Int) (n : NS) : Option (Int) :=
  if v0 = 46 then
    some 1
  else
    if v0 = 45 then
      some 1
    else
      if v0 = 95 then
        some 1
      else
        some 0
theorem fk_Address_isSegmentByte_24 {w y : Prop} {g : g_S} {n : NS} {m : YS} {xv0 : Int32} {v0 : Int} (ev0 : xv0 = Int32.ofInt v0) (rv0 : inR v0) (hR : RC w y g n m) : Rf (fun a b => RZ a b) (k_Address_isSegmentByte_24 xv0 g) (nk_Address_isSegmentByte_24 v0 n) := by
  subst ev0
  unfold k_Address_isSegmentByte_24 nk_Address_isSegmentByte_24
  refine rf_eq rfl (e_n 46) rv0 (show inR 46 by decide) ?_ ?_
  · exact rf_ok (by exact ⟨(e_n 1), (.inr rfl)⟩)
  · refine rf_eq rfl (e_n 45) rv0 (show inR 45 by decide) ?_ ?_
    · exact rf_ok (by exact ⟨(e_n 1), (.inr rfl)⟩)
    · refine rf_eq rfl (e_n 95) rv0 (show inR 95 by decide) ?_ ?_
      · exact rf_ok (by exact ⟨(e_n 1), (.inr rfl)⟩)
      · exact rf_ok (by exact ⟨(e_n 0), (.inl rfl)⟩)
noncomputable def nk_Address_isSegmentByte_12 (v0 : Int) (n : NS) : Option (Int) :=
  if v0 < 48 then
    nk_Address_isSegmentByte_24 v0 n
  else
    if 57 < v0 then
      nk_Address_isSegmentByte_24 v0 n
    else
      some 1
theorem fk_Address_isSegmentByte_12 {w y : Prop} {g : g_S} {n : NS} {m : YS} {xv0 : Int32} {v0 : Int} (ev0 : xv0 = Int32.ofInt v0) (rv0 : inR v0) (hR : RC w y g n m) : Rf (fun a b => RZ a b) (k_Address_isSegmentByte_12 xv0 g) (nk_Address_isSegmentByte_12 v0 n) := by
  subst ev0
  unfold k_Address_isSegmentByte_12 nk_Address_isSegmentByte_12
  refine rf_lt rfl (e_n 48) rv0 (show inR 48 by decide) ?_ ?_
  · exact fk_Address_isSegmentByte_24 rfl rv0 hR
  · refine rf_lt (e_n 57) rfl (show inR 57 by decide) rv0 ?_ ?_
    · exact fk_Address_isSegmentByte_24 rfl rv0 hR
    · exact rf_ok (by exact ⟨(e_n 1), (.inr rfl)⟩)
noncomputable def N_Address_isSegmentByte (v0 : Int) (n : NS) : Option (Int) :=
  if v0 < 97 then
    nk_Address_isSegmentByte_12 v0 n
  else
    if 122 < v0 then
      nk_Address_isSegmentByte_12 v0 n
    else
      some 1
theorem f_Address_isSegmentByte {w y : Prop} {g : g_S} {n : NS} {m : YS} {xv0 : Int32} {v0 : Int} (ev0 : xv0 = Int32.ofInt v0) (rv0 : inR v0) (hR : RC w y g n m) : Rf (fun a b => RZ a b) (M_Address_isSegmentByte xv0 g) (N_Address_isSegmentByte v0 n) := by
  subst ev0
  unfold M_Address_isSegmentByte N_Address_isSegmentByte
  refine rf_lt rfl (e_n 97) rv0 (show inR 97 by decide) ?_ ?_
  · exact fk_Address_isSegmentByte_12 rfl rv0 hR
  · refine rf_lt (e_n 122) rfl (show inR 122 by decide) rv0 ?_ ?_
    · exact fk_Address_isSegmentByte_12 rfl rv0 hR
    · exact rf_ok (by exact ⟨(e_n 1), (.inr rfl)⟩)
noncomputable def nb_Address_readTail_21 (v0 : Int) (v1 : Int) (v2 : Int) (v3 : Int) (v5 : Int) (n : NS) : Option ((Int) ⊕ (Int)) :=
  if v5 < v3 then
    dx n v1 1 v5 <|
    (N_Address_isSegmentByte (n 99 v1 v5) n).bind fun z5 =>
    if z5 = 0 then
      dx n v1 1 v5 <|
      if (n 99 v1 v5) = 61 then
        ck (v5 + 1) <|
        some (.inl (v5 + 1))
      else
        dx n v1 1 v5 <|
        if (n 99 v1 v5) = 38 then
          ck (v5 + 1) <|
          some (.inl (v5 + 1))
        else
          dx n v1 1 v5 <|
          if (n 99 v1 v5) = 43 then
            ck (v5 + 1) <|
            some (.inl (v5 + 1))
          else
            some (.inr v5)
    else
      ck (v5 + 1) <|
      some (.inl (v5 + 1))
  else
    some (.inr v5)
theorem fb_Address_readTail_21 {w y : Prop} {g : g_S} {n : NS} {m : YS} {xv0 : Nat} {v0 : Int} (ev0 : xv0 = Int.toNat v0) (rv0 : 0 ≤ v0 ∧ lc (Int.toNat v0) = (99, v0)) {xv1 : Nat} {v1 : Int} (ev1 : xv1 = Int.toNat v1) (rv1 : 0 ≤ v1 ∧ lc (Int.toNat v1) = (99, v1)) {xv2 : Int32} {v2 : Int} (ev2 : xv2 = Int32.ofInt v2) (rv2 : inR v2) {xv3 : Int32} {v3 : Int} (ev3 : xv3 = Int32.ofInt v3) (rv3 : inR v3) {xv5 : Int32} {v5 : Int} (ev5 : xv5 = Int32.ofInt v5) (rv5 : inR v5) (hR : RC w y g n m) : Rf (RS (fun a b => RI a b) (fun a b => RI a b)) (b_Address_readTail_21 xv0 xv1 xv2 xv3 xv5 g) (nb_Address_readTail_21 v0 v1 v2 v3 v5 n) := by
  subst ev0
  subst ev1
  subst ev2
  subst ev3
  subst ev5
  unfold b_Address_readTail_21 nb_Address_readTail_21
  refine rf_lt rfl rfl rv5 rv3 ?_ ?_
  · refine d_B hR rv1 rfl rv5 (fun h2 h3 => ?_)
    refine rf_bind (f_Address_isSegmentByte rfl (inB.r h3) hR) (fun a7 z5 h => ?_)
    obtain ⟨rfl, r6⟩ := h
    refine rf_eq rfl (e_n 0) (inZ.r r6) (show inR 0 by decide) ?_ ?_
    · refine d_B hR rv1 rfl rv5 (fun h9 h10 => ?_)
      refine rf_eq rfl (e_n 61) (inB.r h10) (show inR 61 by decide) ?_ ?_
      · refine rf_ck (fun h12 => ?_)
        exact rf_ok (by exact ⟨(e_add rfl (e_n 1)), h12⟩)
      · refine d_B hR rv1 rfl rv5 (fun h13 h14 => ?_)
        refine rf_eq rfl (e_n 38) (inB.r h14) (show inR 38 by decide) ?_ ?_
        · refine rf_ck (fun h16 => ?_)
          exact rf_ok (by exact ⟨(e_add rfl (e_n 1)), h16⟩)
        · refine d_B hR rv1 rfl rv5 (fun h17 h18 => ?_)
          refine rf_eq rfl (e_n 43) (inB.r h18) (show inR 43 by decide) ?_ ?_
          · refine rf_ck (fun h20 => ?_)
            exact rf_ok (by exact ⟨(e_add rfl (e_n 1)), h20⟩)
          · exact rf_ok (by exact ⟨rfl, rv5⟩)
    · refine rf_ck (fun h21 => ?_)
      exact rf_ok (by exact ⟨(e_add rfl (e_n 1)), h21⟩)
  · exact rf_ok (by exact ⟨rfl, rv5⟩)
noncomputable def NL_Address_readTail_21 (v0 : Int) (v1 : Int) (v2 : Int) (v3 : Int) (v5 : Int) (n : NS) : Option (Int) :=
  it (fun s : Int => nb_Address_readTail_21 v0 v1 v2 v3 s n) (v5)
theorem fL_Address_readTail_21 {w y : Prop} {g : g_S} {n : NS} {m : YS} {xv0 : Nat} {v0 : Int} (ev0 : xv0 = Int.toNat v0) (rv0 : 0 ≤ v0 ∧ lc (Int.toNat v0) = (99, v0)) {xv1 : Nat} {v1 : Int} (ev1 : xv1 = Int.toNat v1) (rv1 : 0 ≤ v1 ∧ lc (Int.toNat v1) = (99, v1)) {xv2 : Int32} {v2 : Int} (ev2 : xv2 = Int32.ofInt v2) (rv2 : inR v2) {xv3 : Int32} {v3 : Int} (ev3 : xv3 = Int32.ofInt v3) (rv3 : inR v3) {xv5 : Int32} {v5 : Int} (ev5 : xv5 = Int32.ofInt v5) (rv5 : inR v5) (hR : RC w y g n m) : Rf (fun a b => RI a b) (L_Address_readTail_21 xv0 xv1 xv2 xv3 xv5 g) (NL_Address_readTail_21 v0 v1 v2 v3 v5 n) := by
  subst ev0
  subst ev1
  subst ev2
  subst ev3
  subst ev5
  unfold L_Address_readTail_21 NL_Address_readTail_21
  refine rf_it (I := (fun a b => RI a b)) (fun s t h => ?_) ⟨rfl, rv5⟩
  exact fb_Address_readTail_21 rfl rv0 rfl rv1 rfl rv2 rfl rv3 h.1 h.2 hR
theorem NL_Address_readTail_21_eq (v0 : Int) (v1 : Int) (v2 : Int) (v3 : Int) (v5 : Int) (n : NS) : NL_Address_readTail_21 v0 v1 v2 v3 v5 n = itc (nb_Address_readTail_21 v0 v1 v2 v3 v5 n) (fun s => NL_Address_readTail_21 v0 v1 v2 v3 s n) := it_eq2 (fun s : Int => nb_Address_readTail_21 v0 v1 v2 v3 s n) (v5)
noncomputable def nk_Address_readTail_188 (v0 : Int) (v1 : Int) (v3 : Int) (v5 : Int) (n : NS) : Option (Int × NS) :=
  ty n v0 101 <|
  ty n v0 101 <|
  st (nw n 99 v0 4 (n 99 v0 5)) fun n7 =>
  if v5 = v3 then
    some (1, n7)
  else
    ck (v5 + 1) <|
    if (v5 + 1) = v3 then
      some (0, n7)
    else
      ck (v5 + 1) <|
      (N_Bytes_nameEnd v1 (v5 + 1) v3 n7).bind fun z17 =>
      if z17 < v3 then
        some (0, n7)
      else
        ty n7 v0 101 <|
        nn (n7 99 v0 0) <|
        ty n7 v0 101 <|
        ck (v3 - v5) <|
        cpg n7 1 v1 v5 (n7 99 v0 0) (n7 99 v0 5) (v3 - v5) <|
        st (nwA n7 99 (n7 99 v0 0) (cpf (n7 99 v1) (n7 99 (n7 99 v0 0)) v5 (n7 99 v0 5) (v3 - v5))) fun n30 =>
        ty n30 v0 101 <|
        ck (v3 - v5) <|
        ck ((n30 99 v0 5) + (v3 - v5)) <|
        ty n30 v0 101 <|
        st (nw n30 99 v0 5 ((n30 99 v0 5) + (v3 - v5))) fun n41 =>
        some (1, n41)
theorem fk_Address_readTail_188 {w y : Prop} {g : g_S} {n : NS} {m : YS} {xv0 : Nat} {v0 : Int} (ev0 : xv0 = Int.toNat v0) (rv0 : 0 ≤ v0 ∧ lc (Int.toNat v0) = (99, v0)) {xv1 : Nat} {v1 : Int} (ev1 : xv1 = Int.toNat v1) (rv1 : 0 ≤ v1 ∧ lc (Int.toNat v1) = (99, v1)) {xv3 : Int32} {v3 : Int} (ev3 : xv3 = Int32.ofInt v3) (rv3 : inR v3) {xv5 : Int32} {v5 : Int} (ev5 : xv5 = Int32.ofInt v5) (rv5 : inR v5) (hR : RC w y g n m) : Rf (fun a b => RZ a.1 b.1 ∧ RC w y a.2 b.2 m) (k_Address_readTail_188 xv0 xv1 xv3 xv5 g) (nk_Address_readTail_188 v0 v1 v3 v5 n) := by
  subst ev0
  subst ev1
  subst ev3
  subst ev5
  unfold k_Address_readTail_188 nk_Address_readTail_188
  refine rf_ty (t := 101) rv0.1 hR (by decide) (fun h2 h3 => ?_)
  refine c_I (s := 5) hR (ce_dy hR rv0 h3 (by decide)) rfl rfl (fun h1 => ?_)
  refine rf_ty (t := 101) rv0.1 hR (by decide) (fun h5 h6 => ?_)
  refine p_I (s := 4) hR (ce_dy hR rv0 h6 (by decide)) rfl ⟨rfl, rfl, by decide⟩ rfl h1 (fun g9 n7 hR8 => ?_)
  refine rf_eq rfl rfl rv5 rv3 ?_ ?_
  · exact rf_ok (by exact ⟨⟨(e_n 1), (.inr rfl)⟩, hR8⟩)
  · refine rf_ck (fun h12 => ?_)
    refine rf_eq (e_add rfl (e_n 1)) rfl h12 rv3 ?_ ?_
    · exact rf_ok (by exact ⟨⟨(e_n 0), (.inl rfl)⟩, hR8⟩)
    · refine rf_ck (fun h15 => ?_)
      refine rf_bind (f_Bytes_nameEnd rfl rv1 (e_add rfl (e_n 1)) h15 rfl rv3 hR8) (fun a19 z17 h => ?_)
      obtain ⟨rfl, r18⟩ := h
      refine rf_lt rfl rfl r18 rv3 ?_ ?_
      · exact rf_ok (by exact ⟨⟨(e_n 0), (.inl rfl)⟩, hR8⟩)
      · refine rf_ty (t := 101) rv0.1 hR8 (by decide) (fun h23 h24 => ?_)
        refine c_D (s := 0) hR8 (ce_dy hR8 rv0 h24 (by decide)) rfl rfl rfl (fun h22 => ?_)
        refine rf_ty (t := 101) rv0.1 hR8 (by decide) (fun h26 h27 => ?_)
        refine c_I (s := 5) hR8 (ce_dy hR8 rv0 h27 (by decide)) rfl rfl (fun h25 => ?_)
        refine rf_ck (fun h28 => ?_)
        refine n_cp hR8 (by decide) rv1 h22 rfl rv5 rfl h25 (e_sub rfl rfl) h28 (fun g32 n30 hR31 => ?_)
        refine rf_ty (t := 101) rv0.1 hR31 (by decide) (fun h34 h35 => ?_)
        refine c_I (s := 5) hR31 (ce_dy hR31 rv0 h35 (by decide)) rfl rfl (fun h33 => ?_)
        refine rf_ck (fun h36 => ?_)
        refine rf_ck (fun h37 => ?_)
        refine rf_ty (t := 101) rv0.1 hR31 (by decide) (fun h39 h40 => ?_)
        refine p_I (s := 5) hR31 (ce_dy hR31 rv0 h40 (by decide)) rfl ⟨rfl, rfl, by decide⟩ (e_add rfl (e_sub rfl rfl)) h37 (fun g43 n41 hR42 => ?_)
        exact rf_ok (by exact ⟨⟨(e_n 1), (.inr rfl)⟩, hR42⟩)
noncomputable def nk_Address_readTail_131 (v0 : Int) (v1 : Int) (v3 : Int) (v4 : Int) (v5 : Int) (n : NS) : Option (Int × NS) :=
  if v4 < 0 then
    nk_Address_readTail_188 v0 v1 v3 v5 n
  else
    ty n v4 101 <|
    nn (n 99 v4 0) <|
    ty n v4 101 <|
    ty n v0 101 <|
    nn (n 99 v0 0) <|
    ty n v0 101 <|
    ty n v4 101 <|
    ty n v4 101 <|
    ck ((n 99 v4 4) - (n 99 v4 3)) <|
    cpg n 1 (n 99 v4 0) (n 99 v4 3) (n 99 v0 0) (n 99 v0 5) ((n 99 v4 4) - (n 99 v4 3)) <|
    st (nwA n 99 (n 99 v0 0) (cpf (n 99 (n 99 v4 0)) (n 99 (n 99 v0 0)) (n 99 v4 3) (n 99 v0 5) ((n 99 v4 4) - (n 99 v4 3)))) fun n23 =>
    ty n23 v0 101 <|
    ty n23 v4 101 <|
    ty n23 v4 101 <|
    ck ((n23 99 v4 4) - (n23 99 v4 3)) <|
    ck ((n23 99 v0 5) + ((n23 99 v4 4) - (n23 99 v4 3))) <|
    ty n23 v0 101 <|
    st (nw n23 99 v0 5 ((n23 99 v0 5) + ((n23 99 v4 4) - (n23 99 v4 3)))) fun n40 =>
    nk_Address_readTail_188 v0 v1 v3 v5 n40
theorem fk_Address_readTail_131 {w y : Prop} {g : g_S} {n : NS} {m : YS} {xv0 : Nat} {v0 : Int} (ev0 : xv0 = Int.toNat v0) (rv0 : 0 ≤ v0 ∧ lc (Int.toNat v0) = (99, v0)) {xv1 : Nat} {v1 : Int} (ev1 : xv1 = Int.toNat v1) (rv1 : 0 ≤ v1 ∧ lc (Int.toNat v1) = (99, v1)) {xv3 : Int32} {v3 : Int} (ev3 : xv3 = Int32.ofInt v3) (rv3 : inR v3) {xv4 : Option Nat} {v4 : Int} (ev4 : xv4 = ro v4) (rv4 : 0 ≤ v4 → lc (Int.toNat v4) = (99, v4)) {xv5 : Int32} {v5 : Int} (ev5 : xv5 = Int32.ofInt v5) (rv5 : inR v5) (hR : RC w y g n m) : Rf (fun a b => RZ a.1 b.1 ∧ RC w y a.2 b.2 m) (k_Address_readTail_131 xv0 xv1 xv3 xv4 xv5 g) (nk_Address_readTail_131 v0 v1 v3 v4 v5 n) := by
  subst ev0
  subst ev1
  subst ev3
  subst ev4
  subst ev5
  unfold k_Address_readTail_131 nk_Address_readTail_131
  refine rf_ro (fun h1 => ?_) (fun h1 => ?_)
  · refine rf_ty (t := 101) (And.intro h1 (rv4 h1)).1 hR (by decide) (fun h4 h5 => ?_)
    refine c_D (s := 0) hR (ce_dy hR (And.intro h1 (rv4 h1)) h5 (by decide)) rfl rfl rfl (fun h3 => ?_)
    refine rf_ty (t := 101) (And.intro h1 (rv4 h1)).1 hR (by decide) (fun h7 h8 => ?_)
    refine c_I (s := 3) hR (ce_dy hR (And.intro h1 (rv4 h1)) h8 (by decide)) rfl rfl (fun h6 => ?_)
    refine rf_ty (t := 101) rv0.1 hR (by decide) (fun h10 h11 => ?_)
    refine c_D (s := 0) hR (ce_dy hR rv0 h11 (by decide)) rfl rfl rfl (fun h9 => ?_)
    refine rf_ty (t := 101) rv0.1 hR (by decide) (fun h13 h14 => ?_)
    refine c_I (s := 5) hR (ce_dy hR rv0 h14 (by decide)) rfl rfl (fun h12 => ?_)
    refine rf_ty (t := 101) (And.intro h1 (rv4 h1)).1 hR (by decide) (fun h16 h17 => ?_)
    refine c_I (s := 4) hR (ce_dy hR (And.intro h1 (rv4 h1)) h17 (by decide)) rfl rfl (fun h15 => ?_)
    refine rf_ty (t := 101) (And.intro h1 (rv4 h1)).1 hR (by decide) (fun h19 h20 => ?_)
    refine c_I (s := 3) hR (ce_dy hR (And.intro h1 (rv4 h1)) h20 (by decide)) rfl rfl (fun h18 => ?_)
    refine rf_ck (fun h21 => ?_)
    refine n_cp hR (by decide) h3 h9 rfl h6 rfl h12 (e_sub rfl rfl) h21 (fun g25 n23 hR24 => ?_)
    refine rf_ty (t := 101) rv0.1 hR24 (by decide) (fun h27 h28 => ?_)
    refine c_I (s := 5) hR24 (ce_dy hR24 rv0 h28 (by decide)) rfl rfl (fun h26 => ?_)
    refine rf_ty (t := 101) (And.intro h1 (rv4 h1)).1 hR24 (by decide) (fun h30 h31 => ?_)
    refine c_I (s := 4) hR24 (ce_dy hR24 (And.intro h1 (rv4 h1)) h31 (by decide)) rfl rfl (fun h29 => ?_)
    refine rf_ty (t := 101) (And.intro h1 (rv4 h1)).1 hR24 (by decide) (fun h33 h34 => ?_)
    refine c_I (s := 3) hR24 (ce_dy hR24 (And.intro h1 (rv4 h1)) h34 (by decide)) rfl rfl (fun h32 => ?_)
    refine rf_ck (fun h35 => ?_)
    refine rf_ck (fun h36 => ?_)
    refine rf_ty (t := 101) rv0.1 hR24 (by decide) (fun h38 h39 => ?_)
    refine p_I (s := 5) hR24 (ce_dy hR24 rv0 h39 (by decide)) rfl ⟨rfl, rfl, by decide⟩ (e_add rfl (e_sub rfl rfl)) h36 (fun g42 n40 hR41 => ?_)
    exact fk_Address_readTail_188 rfl rv0 rfl rv1 rfl rv3 rfl rv5 hR41
  · exact fk_Address_readTail_188 rfl rv0 rfl rv1 rfl rv3 rfl rv5 hR
noncomputable def nk_Address_readTail_98 (v0 : Int) (v1 : Int) (v2 : Int) (v3 : Int) (v5 : Int) (n : NS) : Option (Int × NS) :=
  ty n v0 101 <|
  nn (n 99 v0 0) <|
  ty n v0 101 <|
  ck (v5 - v2) <|
  cpg n 1 v1 v2 (n 99 v0 0) (n 99 v0 5) (v5 - v2) <|
  st (nwA n 99 (n 99 v0 0) (cpf (n 99 v1) (n 99 (n 99 v0 0)) v2 (n 99 v0 5) (v5 - v2))) fun n9 =>
  ty n9 v0 101 <|
  ck (v5 - v2) <|
  ck ((n9 99 v0 5) + (v5 - v2)) <|
  ty n9 v0 101 <|
  st (nw n9 99 v0 5 ((n9 99 v0 5) + (v5 - v2))) fun n20 =>
  nk_Address_readTail_188 v0 v1 v3 v5 n20
theorem fk_Address_readTail_98 {w y : Prop} {g : g_S} {n : NS} {m : YS} {xv0 : Nat} {v0 : Int} (ev0 : xv0 = Int.toNat v0) (rv0 : 0 ≤ v0 ∧ lc (Int.toNat v0) = (99, v0)) {xv1 : Nat} {v1 : Int} (ev1 : xv1 = Int.toNat v1) (rv1 : 0 ≤ v1 ∧ lc (Int.toNat v1) = (99, v1)) {xv2 : Int32} {v2 : Int} (ev2 : xv2 = Int32.ofInt v2) (rv2 : inR v2) {xv3 : Int32} {v3 : Int} (ev3 : xv3 = Int32.ofInt v3) (rv3 : inR v3) {xv5 : Int32} {v5 : Int} (ev5 : xv5 = Int32.ofInt v5) (rv5 : inR v5) (hR : RC w y g n m) : Rf (fun a b => RZ a.1 b.1 ∧ RC w y a.2 b.2 m) (k_Address_readTail_98 xv0 xv1 xv2 xv3 xv5 g) (nk_Address_readTail_98 v0 v1 v2 v3 v5 n) := by
  subst ev0
  subst ev1
  subst ev2
  subst ev3
  subst ev5
  unfold k_Address_readTail_98 nk_Address_readTail_98
  refine rf_ty (t := 101) rv0.1 hR (by decide) (fun h2 h3 => ?_)
  refine c_D (s := 0) hR (ce_dy hR rv0 h3 (by decide)) rfl rfl rfl (fun h1 => ?_)
  refine rf_ty (t := 101) rv0.1 hR (by decide) (fun h5 h6 => ?_)
  refine c_I (s := 5) hR (ce_dy hR rv0 h6 (by decide)) rfl rfl (fun h4 => ?_)
  refine rf_ck (fun h7 => ?_)
  refine n_cp hR (by decide) rv1 h1 rfl rv2 rfl h4 (e_sub rfl rfl) h7 (fun g11 n9 hR10 => ?_)
  refine rf_ty (t := 101) rv0.1 hR10 (by decide) (fun h13 h14 => ?_)
  refine c_I (s := 5) hR10 (ce_dy hR10 rv0 h14 (by decide)) rfl rfl (fun h12 => ?_)
  refine rf_ck (fun h15 => ?_)
  refine rf_ck (fun h16 => ?_)
  refine rf_ty (t := 101) rv0.1 hR10 (by decide) (fun h18 h19 => ?_)
  refine p_I (s := 5) hR10 (ce_dy hR10 rv0 h19 (by decide)) rfl ⟨rfl, rfl, by decide⟩ (e_add rfl (e_sub rfl rfl)) h16 (fun g22 n20 hR21 => ?_)
  exact fk_Address_readTail_188 rfl rv0 rfl rv1 rfl rv3 rfl rv5 hR21
noncomputable def nk_Address_readTail_70 (v0 : Int) (v1 : Int) (v2 : Int) (v3 : Int) (v5 : Int) (n : NS) : Option (Int × NS) :=
  ck (v5 - v2) <|
  ck ((v5 - v2) - 1) <|
  if 40 < ((v5 - v2) - 1) then
    some (0, n)
  else
    if v5 < v3 then
      dx n v1 1 v5 <|
      if (n 99 v1 v5) = 35 then
        nk_Address_readTail_98 v0 v1 v2 v3 v5 n
      else
        some (0, n)
    else
      nk_Address_readTail_98 v0 v1 v2 v3 v5 n
theorem fk_Address_readTail_70 {w y : Prop} {g : g_S} {n : NS} {m : YS} {xv0 : Nat} {v0 : Int} (ev0 : xv0 = Int.toNat v0) (rv0 : 0 ≤ v0 ∧ lc (Int.toNat v0) = (99, v0)) {xv1 : Nat} {v1 : Int} (ev1 : xv1 = Int.toNat v1) (rv1 : 0 ≤ v1 ∧ lc (Int.toNat v1) = (99, v1)) {xv2 : Int32} {v2 : Int} (ev2 : xv2 = Int32.ofInt v2) (rv2 : inR v2) {xv3 : Int32} {v3 : Int} (ev3 : xv3 = Int32.ofInt v3) (rv3 : inR v3) {xv5 : Int32} {v5 : Int} (ev5 : xv5 = Int32.ofInt v5) (rv5 : inR v5) (hR : RC w y g n m) : Rf (fun a b => RZ a.1 b.1 ∧ RC w y a.2 b.2 m) (k_Address_readTail_70 xv0 xv1 xv2 xv3 xv5 g) (nk_Address_readTail_70 v0 v1 v2 v3 v5 n) := by
  subst ev0
  subst ev1
  subst ev2
  subst ev3
  subst ev5
  unfold k_Address_readTail_70 nk_Address_readTail_70
  refine rf_ck (fun h1 => ?_)
  refine rf_ck (fun h2 => ?_)
  refine rf_lt (e_n 40) (e_sub (e_sub rfl rfl) (e_n 1)) (show inR 40 by decide) h2 ?_ ?_
  · exact rf_ok (by exact ⟨⟨(e_n 0), (.inl rfl)⟩, hR⟩)
  · refine rf_lt rfl rfl rv5 rv3 ?_ ?_
    · refine d_B hR rv1 rfl rv5 (fun h6 h7 => ?_)
      refine rf_eq rfl (e_n 35) (inB.r h7) (show inR 35 by decide) ?_ ?_
      · exact fk_Address_readTail_98 rfl rv0 rfl rv1 rfl rv2 rfl rv3 rfl rv5 hR
      · exact rf_ok (by exact ⟨⟨(e_n 0), (.inl rfl)⟩, hR⟩)
    · exact fk_Address_readTail_98 rfl rv0 rfl rv1 rfl rv2 rfl rv3 rfl rv5 hR
noncomputable def N_Address_readTail (v0 : Int) (v1 : Int) (v2 : Int) (v3 : Int) (v4 : Int) (n : NS) : Option (Int × NS) :=
  if v4 < 0 then
    if v2 < v3 then
      dx n v1 1 v2 <|
      if (n 99 v1 v2) = 63 then
        ck (v2 + 1) <|
        (NL_Address_readTail_21 v0 v1 v2 v3 (v2 + 1) n).bind <| fun z15 =>
        nk_Address_readTail_70 v0 v1 v2 v3 z15 n
      else
        nk_Address_readTail_131 v0 v1 v3 (-1) v2 n
    else
      nk_Address_readTail_131 v0 v1 v3 (-1) v2 n
  else
    if v2 < v3 then
      dx n v1 1 v2 <|
      if (n 99 v1 v2) = 63 then
        ck (v2 + 1) <|
        (NL_Address_readTail_21 v0 v1 v2 v3 (v2 + 1) n).bind <| fun z7 =>
        nk_Address_readTail_70 v0 v1 v2 v3 z7 n
      else
        nk_Address_readTail_131 v0 v1 v3 v4 v2 n
    else
      nk_Address_readTail_131 v0 v1 v3 v4 v2 n
theorem f_Address_readTail {w y : Prop} {g : g_S} {n : NS} {m : YS} {xv0 : Nat} {v0 : Int} (ev0 : xv0 = Int.toNat v0) (rv0 : 0 ≤ v0 ∧ lc (Int.toNat v0) = (99, v0)) {xv1 : Nat} {v1 : Int} (ev1 : xv1 = Int.toNat v1) (rv1 : 0 ≤ v1 ∧ lc (Int.toNat v1) = (99, v1)) {xv2 : Int32} {v2 : Int} (ev2 : xv2 = Int32.ofInt v2) (rv2 : inR v2) {xv3 : Int32} {v3 : Int} (ev3 : xv3 = Int32.ofInt v3) (rv3 : inR v3) {xv4 : Option Nat} {v4 : Int} (ev4 : xv4 = ro v4) (rv4 : 0 ≤ v4 → lc (Int.toNat v4) = (99, v4)) (hR : RC w y g n m) : Rf (fun a b => RZ a.1 b.1 ∧ RC w y a.2 b.2 m) (M_Address_readTail xv0 xv1 xv2 xv3 xv4 g) (N_Address_readTail v0 v1 v2 v3 v4 n) := by
  subst ev0
  subst ev1
  subst ev2
  subst ev3
  subst ev4
  unfold M_Address_readTail N_Address_readTail
  refine rf_ro (fun h1 => ?_) (fun h1 => ?_)
  · refine rf_lt rfl rfl rv2 rv3 ?_ ?_
    · refine d_B hR rv1 rfl rv2 (fun h3 h4 => ?_)
      refine rf_eq rfl (e_n 63) (inB.r h4) (show inR 63 by decide) ?_ ?_
      · refine rf_ck (fun h6 => ?_)
        refine rf_bind (fL_Address_readTail_21 rfl rv0 rfl rv1 rfl rv2 rfl rv3 (e_add rfl (e_n 1)) h6 hR) (fun a8 z7 h => ?_)
        obtain ⟨rfl, r9⟩ := (show RI a8 z7 from h)
        exact fk_Address_readTail_70 rfl rv0 rfl rv1 rfl rv2 rfl rv3 rfl r9 hR
      · exact fk_Address_readTail_131 rfl rv0 rfl rv1 rfl rv3 (ro_s (And.intro h1 (rv4 h1)).1) (fun _ => (And.intro h1 (rv4 h1)).2) rfl rv2 hR
    · exact fk_Address_readTail_131 rfl rv0 rfl rv1 rfl rv3 (ro_s (And.intro h1 (rv4 h1)).1) (fun _ => (And.intro h1 (rv4 h1)).2) rfl rv2 hR
  · refine rf_lt rfl rfl rv2 rv3 ?_ ?_
    · refine d_B hR rv1 rfl rv2 (fun h11 h12 => ?_)
      refine rf_eq rfl (e_n 63) (inB.r h12) (show inR 63 by decide) ?_ ?_
      · refine rf_ck (fun h14 => ?_)
        refine rf_bind (fL_Address_readTail_21 rfl rv0 rfl rv1 rfl rv2 rfl rv3 (e_add rfl (e_n 1)) h14 hR) (fun a16 z15 h => ?_)
        obtain ⟨rfl, r17⟩ := (show RI a16 z15 from h)
        exact fk_Address_readTail_70 rfl rv0 rfl rv1 rfl rv2 rfl rv3 rfl r17 hR
      · exact fk_Address_readTail_131 rfl rv0 rfl rv1 rfl rv3 ro_n (fun z => absurd (show (0 : Int) ≤ -1 from z) (by decide)) rfl rv2 hR
    · exact fk_Address_readTail_131 rfl rv0 rfl rv1 rfl rv3 ro_n (fun z => absurd (show (0 : Int) ≤ -1 from z) (by decide)) rfl rv2 hR
noncomputable def nk_Address_takeSegment_143 (v0 : Int) (v1 : Int) (v2 : Int) (v7 : Int) (n : NS) : Option (Int × NS) :=
  ty n v0 101 <|
  if (n 99 v0 6) = 6 then
    some (0, n)
  else
    ty n v0 101 <|
    ck ((n 99 v0 6) + 1) <|
    ty n v0 101 <|
    st (nw n 99 v0 6 ((n 99 v0 6) + 1)) fun n13 =>
    ty n13 v0 101 <|
    ck (v7 + 1) <|
    ck ((n13 99 v0 5) - (v7 + 1)) <|
    ty n13 v0 101 <|
    st (nw n13 99 v0 5 ((n13 99 v0 5) - (v7 + 1))) fun n24 =>
    ty n24 v0 101 <|
    nn (n24 99 v0 0) <|
    ty n24 v0 101 <|
    dx n24 (n24 99 v0 0) 1 (n24 99 v0 5) <|
    st (nw n24 99 (n24 99 v0 0) (n24 99 v0 5) 47) fun n34 =>
    ty n34 v0 101 <|
    nn (n34 99 v0 0) <|
    ty n34 v0 101 <|
    ck ((n34 99 v0 5) + 1) <|
    cpg n34 1 v1 v2 (n34 99 v0 0) ((n34 99 v0 5) + 1) v7 <|
    st (nwA n34 99 (n34 99 v0 0) (cpf (n34 99 v1) (n34 99 (n34 99 v0 0)) v2 ((n34 99 v0 5) + 1) v7)) fun n45 =>
    some (1, n45)
theorem fk_Address_takeSegment_143 {w y : Prop} {g : g_S} {n : NS} {m : YS} {xv0 : Nat} {v0 : Int} (ev0 : xv0 = Int.toNat v0) (rv0 : 0 ≤ v0 ∧ lc (Int.toNat v0) = (99, v0)) {xv1 : Nat} {v1 : Int} (ev1 : xv1 = Int.toNat v1) (rv1 : 0 ≤ v1 ∧ lc (Int.toNat v1) = (99, v1)) {xv2 : Int32} {v2 : Int} (ev2 : xv2 = Int32.ofInt v2) (rv2 : inR v2) {xv7 : Int32} {v7 : Int} (ev7 : xv7 = Int32.ofInt v7) (rv7 : inR v7) (hR : RC w y g n m) : Rf (fun a b => RZ a.1 b.1 ∧ RC w y a.2 b.2 m) (k_Address_takeSegment_143 xv0 xv1 xv2 xv7 g) (nk_Address_takeSegment_143 v0 v1 v2 v7 n) := by
  subst ev0
  subst ev1
  subst ev2
  subst ev7
  unfold k_Address_takeSegment_143 nk_Address_takeSegment_143
  refine rf_ty (t := 101) rv0.1 hR (by decide) (fun h2 h3 => ?_)
  refine c_I (s := 6) hR (ce_dy hR rv0 h3 (by decide)) rfl rfl (fun h1 => ?_)
  refine rf_eq rfl (e_n 6) h1 (show inR 6 by decide) ?_ ?_
  · exact rf_ok (by exact ⟨⟨(e_n 0), (.inl rfl)⟩, hR⟩)
  · refine rf_ty (t := 101) rv0.1 hR (by decide) (fun h7 h8 => ?_)
    refine c_I (s := 6) hR (ce_dy hR rv0 h8 (by decide)) rfl rfl (fun h6 => ?_)
    refine rf_ck (fun h9 => ?_)
    refine rf_ty (t := 101) rv0.1 hR (by decide) (fun h11 h12 => ?_)
    refine p_I (s := 6) hR (ce_dy hR rv0 h12 (by decide)) rfl ⟨rfl, rfl, by decide⟩ (e_add rfl (e_n 1)) h9 (fun g15 n13 hR14 => ?_)
    refine rf_ty (t := 101) rv0.1 hR14 (by decide) (fun h17 h18 => ?_)
    refine c_I (s := 5) hR14 (ce_dy hR14 rv0 h18 (by decide)) rfl rfl (fun h16 => ?_)
    refine rf_ck (fun h19 => ?_)
    refine rf_ck (fun h20 => ?_)
    refine rf_ty (t := 101) rv0.1 hR14 (by decide) (fun h22 h23 => ?_)
    refine p_I (s := 5) hR14 (ce_dy hR14 rv0 h23 (by decide)) rfl ⟨rfl, rfl, by decide⟩ (e_sub rfl (e_add rfl (e_n 1))) h20 (fun g26 n24 hR25 => ?_)
    refine rf_ty (t := 101) rv0.1 hR25 (by decide) (fun h28 h29 => ?_)
    refine c_D (s := 0) hR25 (ce_dy hR25 rv0 h29 (by decide)) rfl rfl rfl (fun h27 => ?_)
    refine rf_ty (t := 101) rv0.1 hR25 (by decide) (fun h31 h32 => ?_)
    refine c_I (s := 5) hR25 (ce_dy hR25 rv0 h32 (by decide)) rfl rfl (fun h30 => ?_)
    refine e_B hR25 h27 rfl h30 (e_n 47) (show inB 47 by decide) (fun g36 n34 hR35 => ?_)
    refine rf_ty (t := 101) rv0.1 hR35 (by decide) (fun h38 h39 => ?_)
    refine c_D (s := 0) hR35 (ce_dy hR35 rv0 h39 (by decide)) rfl rfl rfl (fun h37 => ?_)
    refine rf_ty (t := 101) rv0.1 hR35 (by decide) (fun h41 h42 => ?_)
    refine c_I (s := 5) hR35 (ce_dy hR35 rv0 h42 (by decide)) rfl rfl (fun h40 => ?_)
    refine rf_ck (fun h43 => ?_)
    refine n_cp hR35 (by decide) rv1 h37 rfl rv2 (e_add rfl (e_n 1)) h43 rfl rv7 (fun g47 n45 hR46 => ?_)
    exact rf_ok (by exact ⟨⟨(e_n 1), (.inr rfl)⟩, hR46⟩)
noncomputable def nk_Address_takeSegment_103 (v0 : Int) (v1 : Int) (v2 : Int) (v5 : Int) (v6 : Int) (w0 : Int) (n : NS) : Option (Int × NS) :=
  if 12 < w0 then
    some (0, n)
  else
    if v5 = 0 then
      if v6 = 0 then
        ty n v0 101 <|
        if 0 < (n 99 v0 7) then
          ty n v0 101 <|
          ck ((n 99 v0 7) - 1) <|
          ty n v0 101 <|
          st (nw n 99 v0 7 ((n 99 v0 7) - 1)) fun n16 =>
          some (1, n16)
        else
          nk_Address_takeSegment_143 v0 v1 v2 w0 n
      else
        nk_Address_takeSegment_143 v0 v1 v2 w0 n
    else
      nk_Address_takeSegment_143 v0 v1 v2 w0 n
theorem fk_Address_takeSegment_103 {w y : Prop} {g : g_S} {n : NS} {m : YS} {xv0 : Nat} {v0 : Int} (ev0 : xv0 = Int.toNat v0) (rv0 : 0 ≤ v0 ∧ lc (Int.toNat v0) = (99, v0)) {xv1 : Nat} {v1 : Int} (ev1 : xv1 = Int.toNat v1) (rv1 : 0 ≤ v1 ∧ lc (Int.toNat v1) = (99, v1)) {xv2 : Int32} {v2 : Int} (ev2 : xv2 = Int32.ofInt v2) (rv2 : inR v2) {xv5 : Int32} {v5 : Int} (ev5 : xv5 = Int32.ofInt v5) (rv5 : inR v5) {xv6 : Int32} {v6 : Int} (ev6 : xv6 = Int32.ofInt v6) (rv6 : inR v6) {xw0 : Int32} {w0 : Int} (ew0 : xw0 = Int32.ofInt w0) (rw0 : inR w0) (hR : RC w y g n m) : Rf (fun a b => RZ a.1 b.1 ∧ RC w y a.2 b.2 m) (k_Address_takeSegment_103 xv0 xv1 xv2 xv5 xv6 xw0 g) (nk_Address_takeSegment_103 v0 v1 v2 v5 v6 w0 n) := by
  subst ev0
  subst ev1
  subst ev2
  subst ev5
  subst ev6
  subst ew0
  unfold k_Address_takeSegment_103 nk_Address_takeSegment_103
  refine rf_lt (e_n 12) rfl (show inR 12 by decide) rw0 ?_ ?_
  · exact rf_ok (by exact ⟨⟨(e_n 0), (.inl rfl)⟩, hR⟩)
  · refine rf_eq rfl (e_n 0) rv5 (show inR 0 by decide) ?_ ?_
    · refine rf_eq rfl (e_n 0) rv6 (show inR 0 by decide) ?_ ?_
      · refine rf_ty (t := 101) rv0.1 hR (by decide) (fun h6 h7 => ?_)
        refine c_I (s := 7) hR (ce_dy hR rv0 h7 (by decide)) rfl rfl (fun h5 => ?_)
        refine rf_lt (e_n 0) rfl (show inR 0 by decide) h5 ?_ ?_
        · refine rf_ty (t := 101) rv0.1 hR (by decide) (fun h10 h11 => ?_)
          refine c_I (s := 7) hR (ce_dy hR rv0 h11 (by decide)) rfl rfl (fun h9 => ?_)
          refine rf_ck (fun h12 => ?_)
          refine rf_ty (t := 101) rv0.1 hR (by decide) (fun h14 h15 => ?_)
          refine p_I (s := 7) hR (ce_dy hR rv0 h15 (by decide)) rfl ⟨rfl, rfl, by decide⟩ (e_sub rfl (e_n 1)) h12 (fun g18 n16 hR17 => ?_)
          exact rf_ok (by exact ⟨⟨(e_n 1), (.inr rfl)⟩, hR17⟩)
        · exact fk_Address_takeSegment_143 rfl rv0 rfl rv1 rfl rv2 rfl rw0 hR
      · exact fk_Address_takeSegment_143 rfl rv0 rfl rv1 rfl rv2 rfl rw0 hR
    · exact fk_Address_takeSegment_143 rfl rv0 rfl rv1 rfl rv2 rfl rw0 hR
noncomputable def nk_Address_takeSegment_96 (v0 : Int) (v1 : Int) (v2 : Int) (v5 : Int) (v6 : Int) (n : NS) : Option (Int × NS) :=
  nk_Address_takeSegment_103 v0 v1 v2 v5 v6 0 n
theorem fk_Address_takeSegment_96 {w y : Prop} {g : g_S} {n : NS} {m : YS} {xv0 : Nat} {v0 : Int} (ev0 : xv0 = Int.toNat v0) (rv0 : 0 ≤ v0 ∧ lc (Int.toNat v0) = (99, v0)) {xv1 : Nat} {v1 : Int} (ev1 : xv1 = Int.toNat v1) (rv1 : 0 ≤ v1 ∧ lc (Int.toNat v1) = (99, v1)) {xv2 : Int32} {v2 : Int} (ev2 : xv2 = Int32.ofInt v2) (rv2 : inR v2) {xv5 : Int32} {v5 : Int} (ev5 : xv5 = Int32.ofInt v5) (rv5 : inR v5) {xv6 : Int32} {v6 : Int} (ev6 : xv6 = Int32.ofInt v6) (rv6 : inR v6) (hR : RC w y g n m) : Rf (fun a b => RZ a.1 b.1 ∧ RC w y a.2 b.2 m) (k_Address_takeSegment_96 xv0 xv1 xv2 xv5 xv6 g) (nk_Address_takeSegment_96 v0 v1 v2 v5 v6 n) := by
  subst ev0
  subst ev1
  subst ev2
  subst ev5
  subst ev6
  unfold k_Address_takeSegment_96 nk_Address_takeSegment_96
  exact fk_Address_takeSegment_103 rfl rv0 rfl rv1 rfl rv2 rfl rv5 rfl rv6 (e_n 0) (show inR 0 by decide) hR
noncomputable def nk_Address_takeSegment_86 (v0 : Int) (v1 : Int) (v2 : Int) (v3 : Int) (v5 : Int) (v6 : Int) (n : NS) : Option (Int × NS) :=
  if v5 = 0 then
    if v6 = 0 then
      ck (v3 - v2) <|
      nk_Address_takeSegment_103 v0 v1 v2 v5 v6 (v3 - v2) n
    else
      nk_Address_takeSegment_96 v0 v1 v2 v5 v6 n
  else
    nk_Address_takeSegment_96 v0 v1 v2 v5 v6 n
theorem fk_Address_takeSegment_86 {w y : Prop} {g : g_S} {n : NS} {m : YS} {xv0 : Nat} {v0 : Int} (ev0 : xv0 = Int.toNat v0) (rv0 : 0 ≤ v0 ∧ lc (Int.toNat v0) = (99, v0)) {xv1 : Nat} {v1 : Int} (ev1 : xv1 = Int.toNat v1) (rv1 : 0 ≤ v1 ∧ lc (Int.toNat v1) = (99, v1)) {xv2 : Int32} {v2 : Int} (ev2 : xv2 = Int32.ofInt v2) (rv2 : inR v2) {xv3 : Int32} {v3 : Int} (ev3 : xv3 = Int32.ofInt v3) (rv3 : inR v3) {xv5 : Int32} {v5 : Int} (ev5 : xv5 = Int32.ofInt v5) (rv5 : inR v5) {xv6 : Int32} {v6 : Int} (ev6 : xv6 = Int32.ofInt v6) (rv6 : inR v6) (hR : RC w y g n m) : Rf (fun a b => RZ a.1 b.1 ∧ RC w y a.2 b.2 m) (k_Address_takeSegment_86 xv0 xv1 xv2 xv3 xv5 xv6 g) (nk_Address_takeSegment_86 v0 v1 v2 v3 v5 v6 n) := by
  subst ev0
  subst ev1
  subst ev2
  subst ev3
  subst ev5
  subst ev6
  unfold k_Address_takeSegment_86 nk_Address_takeSegment_86
  refine rf_eq rfl (e_n 0) rv5 (show inR 0 by decide) ?_ ?_
  · refine rf_eq rfl (e_n 0) rv6 (show inR 0 by decide) ?_ ?_
    · refine rf_ck (fun h3 => ?_)
      exact fk_Address_takeSegment_103 rfl rv0 rfl rv1 rfl rv2 rfl rv5 rfl rv6 (e_sub rfl rfl) h3 hR
    · exact fk_Address_takeSegment_96 rfl rv0 rfl rv1 rfl rv2 rfl rv5 rfl rv6 hR
  · exact fk_Address_takeSegment_96 rfl rv0 rfl rv1 rfl rv2 rfl rv5 rfl rv6 hR
noncomputable def nk_Address_takeSegment_79 (v0 : Int) (v1 : Int) (v2 : Int) (v3 : Int) (v4 : Int) (v5 : Int) (v6 : Int) (n : NS) : Option (Int × NS) :=
  if v4 = 0 then
    some (1, n)
  else
    nk_Address_takeSegment_86 v0 v1 v2 v3 v5 v6 n
theorem fk_Address_takeSegment_79 {w y : Prop} {g : g_S} {n : NS} {m : YS} {xv0 : Nat} {v0 : Int} (ev0 : xv0 = Int.toNat v0) (rv0 : 0 ≤ v0 ∧ lc (Int.toNat v0) = (99, v0)) {xv1 : Nat} {v1 : Int} (ev1 : xv1 = Int.toNat v1) (rv1 : 0 ≤ v1 ∧ lc (Int.toNat v1) = (99, v1)) {xv2 : Int32} {v2 : Int} (ev2 : xv2 = Int32.ofInt v2) (rv2 : inR v2) {xv3 : Int32} {v3 : Int} (ev3 : xv3 = Int32.ofInt v3) (rv3 : inR v3) {xv4 : Int32} {v4 : Int} (ev4 : xv4 = Int32.ofInt v4) (rv4 : inR v4) {xv5 : Int32} {v5 : Int} (ev5 : xv5 = Int32.ofInt v5) (rv5 : inR v5) {xv6 : Int32} {v6 : Int} (ev6 : xv6 = Int32.ofInt v6) (rv6 : inR v6) (hR : RC w y g n m) : Rf (fun a b => RZ a.1 b.1 ∧ RC w y a.2 b.2 m) (k_Address_takeSegment_79 xv0 xv1 xv2 xv3 xv4 xv5 xv6 g) (nk_Address_takeSegment_79 v0 v1 v2 v3 v4 v5 v6 n) := by
  subst ev0
  subst ev1
  subst ev2
  subst ev3
  subst ev4
  subst ev5
  subst ev6
  unfold k_Address_takeSegment_79 nk_Address_takeSegment_79
  refine rf_eq rfl (e_n 0) rv4 (show inR 0 by decide) ?_ ?_
  · exact rf_ok (by exact ⟨⟨(e_n 1), (.inr rfl)⟩, hR⟩)
  · exact fk_Address_takeSegment_86 rfl rv0 rfl rv1 rfl rv2 rfl rv3 rfl rv5 rfl rv6 hR
noncomputable def nk_Address_takeSegment_69 (v0 : Int) (v1 : Int) (v2 : Int) (v3 : Int) (v4 : Int) (v5 : Int) (v6 : Int) (n : NS) : Option (Int × NS) :=
  if v5 = 0 then
    if v6 = 0 then
      nk_Address_takeSegment_86 v0 v1 v2 v3 v5 v6 n
    else
      nk_Address_takeSegment_79 v0 v1 v2 v3 v4 v5 v6 n
  else
    nk_Address_takeSegment_79 v0 v1 v2 v3 v4 v5 v6 n
theorem fk_Address_takeSegment_69 {w y : Prop} {g : g_S} {n : NS} {m : YS} {xv0 : Nat} {v0 : Int} (ev0 : xv0 = Int.toNat v0) (rv0 : 0 ≤ v0 ∧ lc (Int.toNat v0) = (99, v0)) {xv1 : Nat} {v1 : Int} (ev1 : xv1 = Int.toNat v1) (rv1 : 0 ≤ v1 ∧ lc (Int.toNat v1) = (99, v1)) {xv2 : Int32} {v2 : Int} (ev2 : xv2 = Int32.ofInt v2) (rv2 : inR v2) {xv3 : Int32} {v3 : Int} (ev3 : xv3 = Int32.ofInt v3) (rv3 : inR v3) {xv4 : Int32} {v4 : Int} (ev4 : xv4 = Int32.ofInt v4) (rv4 : inR v4) {xv5 : Int32} {v5 : Int} (ev5 : xv5 = Int32.ofInt v5) (rv5 : inR v5) {xv6 : Int32} {v6 : Int} (ev6 : xv6 = Int32.ofInt v6) (rv6 : inR v6) (hR : RC w y g n m) : Rf (fun a b => RZ a.1 b.1 ∧ RC w y a.2 b.2 m) (k_Address_takeSegment_69 xv0 xv1 xv2 xv3 xv4 xv5 xv6 g) (nk_Address_takeSegment_69 v0 v1 v2 v3 v4 v5 v6 n) := by
  subst ev0
  subst ev1
  subst ev2
  subst ev3
  subst ev4
  subst ev5
  subst ev6
  unfold k_Address_takeSegment_69 nk_Address_takeSegment_69
  refine rf_eq rfl (e_n 0) rv5 (show inR 0 by decide) ?_ ?_
  · refine rf_eq rfl (e_n 0) rv6 (show inR 0 by decide) ?_ ?_
    · exact fk_Address_takeSegment_86 rfl rv0 rfl rv1 rfl rv2 rfl rv3 rfl rv5 rfl rv6 hR
    · exact fk_Address_takeSegment_79 rfl rv0 rfl rv1 rfl rv2 rfl rv3 rfl rv4 rfl rv5 rfl rv6 hR
  · exact fk_Address_takeSegment_79 rfl rv0 rfl rv1 rfl rv2 rfl rv3 rfl rv4 rfl rv5 rfl rv6 hR
noncomputable def nk_Address_takeSegment_52 (v0 : Int) (v1 : Int) (v2 : Int) (v3 : Int) (v4 : Int) (v5 : Int) (w0 : Int) (n : NS) : Option (Int × NS) :=
  if w0 = 0 then
    nk_Address_takeSegment_69 v0 v1 v2 v3 v4 v5 w0 n
  else
    ty n v0 101 <|
    ck ((n 99 v0 7) + 1) <|
    ty n v0 101 <|
    st (nw n 99 v0 7 ((n 99 v0 7) + 1)) fun n9 =>
    nk_Address_takeSegment_69 v0 v1 v2 v3 v4 v5 w0 n9
theorem fk_Address_takeSegment_52 {w y : Prop} {g : g_S} {n : NS} {m : YS} {xv0 : Nat} {v0 : Int} (ev0 : xv0 = Int.toNat v0) (rv0 : 0 ≤ v0 ∧ lc (Int.toNat v0) = (99, v0)) {xv1 : Nat} {v1 : Int} (ev1 : xv1 = Int.toNat v1) (rv1 : 0 ≤ v1 ∧ lc (Int.toNat v1) = (99, v1)) {xv2 : Int32} {v2 : Int} (ev2 : xv2 = Int32.ofInt v2) (rv2 : inR v2) {xv3 : Int32} {v3 : Int} (ev3 : xv3 = Int32.ofInt v3) (rv3 : inR v3) {xv4 : Int32} {v4 : Int} (ev4 : xv4 = Int32.ofInt v4) (rv4 : inR v4) {xv5 : Int32} {v5 : Int} (ev5 : xv5 = Int32.ofInt v5) (rv5 : inR v5) {xw0 : Int32} {w0 : Int} (ew0 : xw0 = Int32.ofInt w0) (rw0 : inR w0) (hR : RC w y g n m) : Rf (fun a b => RZ a.1 b.1 ∧ RC w y a.2 b.2 m) (k_Address_takeSegment_52 xv0 xv1 xv2 xv3 xv4 xv5 xw0 g) (nk_Address_takeSegment_52 v0 v1 v2 v3 v4 v5 w0 n) := by
  subst ev0
  subst ev1
  subst ev2
  subst ev3
  subst ev4
  subst ev5
  subst ew0
  unfold k_Address_takeSegment_52 nk_Address_takeSegment_52
  refine rf_eq rfl (e_n 0) rw0 (show inR 0 by decide) ?_ ?_
  · exact fk_Address_takeSegment_69 rfl rv0 rfl rv1 rfl rv2 rfl rv3 rfl rv4 rfl rv5 rfl rw0 hR
  · refine rf_ty (t := 101) rv0.1 hR (by decide) (fun h3 h4 => ?_)
    refine c_I (s := 7) hR (ce_dy hR rv0 h4 (by decide)) rfl rfl (fun h2 => ?_)
    refine rf_ck (fun h5 => ?_)
    refine rf_ty (t := 101) rv0.1 hR (by decide) (fun h7 h8 => ?_)
    refine p_I (s := 7) hR (ce_dy hR rv0 h8 (by decide)) rfl ⟨rfl, rfl, by decide⟩ (e_add rfl (e_n 1)) h5 (fun g11 n9 hR10 => ?_)
    exact fk_Address_takeSegment_69 rfl rv0 rfl rv1 rfl rv2 rfl rv3 rfl rv4 rfl rv5 rfl rw0 hR10
noncomputable def nk_Address_takeSegment_51 (v0 : Int) (v1 : Int) (v2 : Int) (v3 : Int) (v4 : Int) (v5 : Int) (n : NS) : Option (Int × NS) :=
  nk_Address_takeSegment_52 v0 v1 v2 v3 v4 v5 0 n
theorem fk_Address_takeSegment_51 {w y : Prop} {g : g_S} {n : NS} {m : YS} {xv0 : Nat} {v0 : Int} (ev0 : xv0 = Int.toNat v0) (rv0 : 0 ≤ v0 ∧ lc (Int.toNat v0) = (99, v0)) {xv1 : Nat} {v1 : Int} (ev1 : xv1 = Int.toNat v1) (rv1 : 0 ≤ v1 ∧ lc (Int.toNat v1) = (99, v1)) {xv2 : Int32} {v2 : Int} (ev2 : xv2 = Int32.ofInt v2) (rv2 : inR v2) {xv3 : Int32} {v3 : Int} (ev3 : xv3 = Int32.ofInt v3) (rv3 : inR v3) {xv4 : Int32} {v4 : Int} (ev4 : xv4 = Int32.ofInt v4) (rv4 : inR v4) {xv5 : Int32} {v5 : Int} (ev5 : xv5 = Int32.ofInt v5) (rv5 : inR v5) (hR : RC w y g n m) : Rf (fun a b => RZ a.1 b.1 ∧ RC w y a.2 b.2 m) (k_Address_takeSegment_51 xv0 xv1 xv2 xv3 xv4 xv5 g) (nk_Address_takeSegment_51 v0 v1 v2 v3 v4 v5 n) := by
  subst ev0
  subst ev1
  subst ev2
  subst ev3
  subst ev4
  subst ev5
  unfold k_Address_takeSegment_51 nk_Address_takeSegment_51
  exact fk_Address_takeSegment_52 rfl rv0 rfl rv1 rfl rv2 rfl rv3 rfl rv4 rfl rv5 (e_n 0) (show inR 0 by decide) hR
noncomputable def nk_Address_takeSegment_20 (v0 : Int) (v1 : Int) (v2 : Int) (v3 : Int) (v4 : Int) (w0 : Int) (n : NS) : Option (Int × NS) :=
  ck (v3 - v2) <|
  if (v3 - v2) = 2 then
    dx n v1 1 v2 <|
    if (n 99 v1 v2) = 46 then
      ck (v2 + 1) <|
      dx n v1 1 (v2 + 1) <|
      if (n 99 v1 (v2 + 1)) = 46 then
        nk_Address_takeSegment_52 v0 v1 v2 v3 v4 w0 1 n
      else
        nk_Address_takeSegment_51 v0 v1 v2 v3 v4 w0 n
    else
      nk_Address_takeSegment_51 v0 v1 v2 v3 v4 w0 n
  else
    nk_Address_takeSegment_51 v0 v1 v2 v3 v4 w0 n
theorem fk_Address_takeSegment_20 {w y : Prop} {g : g_S} {n : NS} {m : YS} {xv0 : Nat} {v0 : Int} (ev0 : xv0 = Int.toNat v0) (rv0 : 0 ≤ v0 ∧ lc (Int.toNat v0) = (99, v0)) {xv1 : Nat} {v1 : Int} (ev1 : xv1 = Int.toNat v1) (rv1 : 0 ≤ v1 ∧ lc (Int.toNat v1) = (99, v1)) {xv2 : Int32} {v2 : Int} (ev2 : xv2 = Int32.ofInt v2) (rv2 : inR v2) {xv3 : Int32} {v3 : Int} (ev3 : xv3 = Int32.ofInt v3) (rv3 : inR v3) {xv4 : Int32} {v4 : Int} (ev4 : xv4 = Int32.ofInt v4) (rv4 : inR v4) {xw0 : Int32} {w0 : Int} (ew0 : xw0 = Int32.ofInt w0) (rw0 : inR w0) (hR : RC w y g n m) : Rf (fun a b => RZ a.1 b.1 ∧ RC w y a.2 b.2 m) (k_Address_takeSegment_20 xv0 xv1 xv2 xv3 xv4 xw0 g) (nk_Address_takeSegment_20 v0 v1 v2 v3 v4 w0 n) := by
  subst ev0
  subst ev1
  subst ev2
  subst ev3
  subst ev4
  subst ew0
  unfold k_Address_takeSegment_20 nk_Address_takeSegment_20
  refine rf_ck (fun h1 => ?_)
  refine rf_eq (e_sub rfl rfl) (e_n 2) h1 (show inR 2 by decide) ?_ ?_
  · refine d_B hR rv1 rfl rv2 (fun h3 h4 => ?_)
    refine rf_eq rfl (e_n 46) (inB.r h4) (show inR 46 by decide) ?_ ?_
    · refine rf_ck (fun h6 => ?_)
      refine d_B hR rv1 (e_add rfl (e_n 1)) h6 (fun h7 h8 => ?_)
      refine rf_eq rfl (e_n 46) (inB.r h8) (show inR 46 by decide) ?_ ?_
      · exact fk_Address_takeSegment_52 rfl rv0 rfl rv1 rfl rv2 rfl rv3 rfl rv4 rfl rw0 (e_n 1) (show inR 1 by decide) hR
      · exact fk_Address_takeSegment_51 rfl rv0 rfl rv1 rfl rv2 rfl rv3 rfl rv4 rfl rw0 hR
    · exact fk_Address_takeSegment_51 rfl rv0 rfl rv1 rfl rv2 rfl rv3 rfl rv4 rfl rw0 hR
  · exact fk_Address_takeSegment_51 rfl rv0 rfl rv1 rfl rv2 rfl rv3 rfl rv4 rfl rw0 hR
noncomputable def nk_Address_takeSegment_19 (v0 : Int) (v1 : Int) (v2 : Int) (v3 : Int) (v4 : Int) (n : NS) : Option (Int × NS) :=
  nk_Address_takeSegment_20 v0 v1 v2 v3 v4 0 n
theorem fk_Address_takeSegment_19 {w y : Prop} {g : g_S} {n : NS} {m : YS} {xv0 : Nat} {v0 : Int} (ev0 : xv0 = Int.toNat v0) (rv0 : 0 ≤ v0 ∧ lc (Int.toNat v0) = (99, v0)) {xv1 : Nat} {v1 : Int} (ev1 : xv1 = Int.toNat v1) (rv1 : 0 ≤ v1 ∧ lc (Int.toNat v1) = (99, v1)) {xv2 : Int32} {v2 : Int} (ev2 : xv2 = Int32.ofInt v2) (rv2 : inR v2) {xv3 : Int32} {v3 : Int} (ev3 : xv3 = Int32.ofInt v3) (rv3 : inR v3) {xv4 : Int32} {v4 : Int} (ev4 : xv4 = Int32.ofInt v4) (rv4 : inR v4) (hR : RC w y g n m) : Rf (fun a b => RZ a.1 b.1 ∧ RC w y a.2 b.2 m) (k_Address_takeSegment_19 xv0 xv1 xv2 xv3 xv4 g) (nk_Address_takeSegment_19 v0 v1 v2 v3 v4 n) := by
  subst ev0
  subst ev1
  subst ev2
  subst ev3
  subst ev4
  unfold k_Address_takeSegment_19 nk_Address_takeSegment_19
  exact fk_Address_takeSegment_20 rfl rv0 rfl rv1 rfl rv2 rfl rv3 rfl rv4 (e_n 0) (show inR 0 by decide) hR
noncomputable def N_Address_takeSegment (v0 : Int) (v1 : Int) (v2 : Int) (v3 : Int) (v4 : Int) (n : NS) : Option (Int × NS) :=
  ck (v3 - v2) <|
  if (v3 - v2) = 1 then
    dx n v1 1 v2 <|
    if (n 99 v1 v2) = 46 then
      nk_Address_takeSegment_20 v0 v1 v2 v3 v4 1 n
    else
      nk_Address_takeSegment_19 v0 v1 v2 v3 v4 n
  else
    nk_Address_takeSegment_19 v0 v1 v2 v3 v4 n
theorem f_Address_takeSegment {w y : Prop} {g : g_S} {n : NS} {m : YS} {xv0 : Nat} {v0 : Int} (ev0 : xv0 = Int.toNat v0) (rv0 : 0 ≤ v0 ∧ lc (Int.toNat v0) = (99, v0)) {xv1 : Nat} {v1 : Int} (ev1 : xv1 = Int.toNat v1) (rv1 : 0 ≤ v1 ∧ lc (Int.toNat v1) = (99, v1)) {xv2 : Int32} {v2 : Int} (ev2 : xv2 = Int32.ofInt v2) (rv2 : inR v2) {xv3 : Int32} {v3 : Int} (ev3 : xv3 = Int32.ofInt v3) (rv3 : inR v3) {xv4 : Int32} {v4 : Int} (ev4 : xv4 = Int32.ofInt v4) (rv4 : inR v4) (hR : RC w y g n m) : Rf (fun a b => RZ a.1 b.1 ∧ RC w y a.2 b.2 m) (M_Address_takeSegment xv0 xv1 xv2 xv3 xv4 g) (N_Address_takeSegment v0 v1 v2 v3 v4 n) := by
  subst ev0
  subst ev1
  subst ev2
  subst ev3
  subst ev4
  unfold M_Address_takeSegment N_Address_takeSegment
  refine rf_ck (fun h1 => ?_)
  refine rf_eq (e_sub rfl rfl) (e_n 1) h1 (show inR 1 by decide) ?_ ?_
  · refine d_B hR rv1 rfl rv2 (fun h3 h4 => ?_)
    refine rf_eq rfl (e_n 46) (inB.r h4) (show inR 46 by decide) ?_ ?_
    · exact fk_Address_takeSegment_20 rfl rv0 rfl rv1 rfl rv2 rfl rv3 rfl rv4 (e_n 1) (show inR 1 by decide) hR
    · exact fk_Address_takeSegment_19 rfl rv0 rfl rv1 rfl rv2 rfl rv3 rfl rv4 hR
  · exact fk_Address_takeSegment_19 rfl rv0 rfl rv1 rfl rv2 rfl rv3 rfl rv4 hR
noncomputable def nk_Address_takeSegments_43 (v0 : Int) (v1 : Int) (v2 : Int) (v4 : Int) (v6 : Int) (w0 : Int) (w1 : Int) (w2 : Int) (w3 : Int) (w4 : Int) (n : NS) : Option ((Int × Int × NS) ⊕ ((NS) ⊕ (NS) ⊕ (Int × NS))) :=
  ty n w4 101 <|
  (N_Address_takeSegment w4 w3 w2 w1 w0 n).bind <| u2 fun z4 n7 =>
  if z4 = 0 then
    some (.inr (.inl n7))
  else
    ck (v6 + (-1)) <|
    some (.inl (v6, v6 + (-1), n7))
theorem fk_Address_takeSegments_43 {w y : Prop} {g : g_S} {n : NS} {m : YS} {xv0 : Nat} {v0 : Int} (ev0 : xv0 = Int.toNat v0) (rv0 : 0 ≤ v0 ∧ lc (Int.toNat v0) = (99, v0)) {xv1 : Nat} {v1 : Int} (ev1 : xv1 = Int.toNat v1) (rv1 : 0 ≤ v1 ∧ lc (Int.toNat v1) = (99, v1)) {xv2 : Int32} {v2 : Int} (ev2 : xv2 = Int32.ofInt v2) (rv2 : inR v2) {xv4 : Int32} {v4 : Int} (ev4 : xv4 = Int32.ofInt v4) (rv4 : inR v4) {xv6 : Int32} {v6 : Int} (ev6 : xv6 = Int32.ofInt v6) (rv6 : inR v6) {xw0 : Int32} {w0 : Int} (ew0 : xw0 = Int32.ofInt w0) (rw0 : inR w0) {xw1 : Int32} {w1 : Int} (ew1 : xw1 = Int32.ofInt w1) (rw1 : inR w1) {xw2 : Int32} {w2 : Int} (ew2 : xw2 = Int32.ofInt w2) (rw2 : inR w2) {xw3 : Nat} {w3 : Int} (ew3 : xw3 = Int.toNat w3) (rw3 : 0 ≤ w3 ∧ lc (Int.toNat w3) = (99, w3)) {xw4 : Nat} {w4 : Int} (ew4 : xw4 = Int.toNat w4) (rw4 : 0 ≤ w4 ∧ lc (Int.toNat w4) = (99, w4)) (hR : RC w y g n m) : Rf (RS (fun a b => RI a.1 b.1 ∧ RI a.2.1 b.2.1 ∧ RC w y a.2.2 b.2.2 m) (RS (fun a b => RC w y a b m) (RS (fun a b => RC w y a b m) (fun a b => RI a.1 b.1 ∧ RC w y a.2 b.2 m)))) (k_Address_takeSegments_43 xv0 xv1 xv2 xv4 xv6 xw0 xw1 xw2 xw3 xw4 g) (nk_Address_takeSegments_43 v0 v1 v2 v4 v6 w0 w1 w2 w3 w4 n) := by
  subst ev0
  subst ev1
  subst ev2
  subst ev4
  subst ev6
  subst ew0
  subst ew1
  subst ew2
  subst ew3
  subst ew4
  unfold k_Address_takeSegments_43 nk_Address_takeSegments_43
  refine rf_ty (t := 101) rw4.1 hR (by decide) (fun h2 h3 => ?_)
  refine v_c2 h2 ?_
  refine rf_c2 (f_Address_takeSegment rfl rw4 rfl rw3 rfl rw2 rfl rw1 rfl rw0 hR) (fun a6 g9 b h => ?_)
  obtain ⟨z4, n7⟩ := b
  refine rf_v2 ?_
  obtain ⟨rfl, r5⟩ := (show RZ a6 z4 from h.1)
  have hR8 : RC w y g9 n7 m := h.2
  refine rf_eq rfl (e_n 0) (inZ.r r5) (show inR 0 by decide) ?_ ?_
  · exact rf_ok (by exact hR8)
  · refine rf_ck (fun h11 => ?_)
    exact rf_ok (by exact ⟨⟨rfl, rv6⟩, ⟨(e_add rfl (e_m 1)), h11⟩, hR8⟩)
noncomputable def nb_Address_takeSegments_8 (v0 : Int) (v1 : Int) (v2 : Int) (v4 : Int) (v5 : Int) (v6 : Int) (n : NS) : Option ((Int × Int × NS) ⊕ ((NS) ⊕ (NS) ⊕ (Int × NS))) :=
  if v6 < v2 then
    some (.inr (.inr (.inr (v5, n))))
  else
    dx n v1 1 v6 <|
    if (n 99 v1 v6) = 47 then
      ck (v6 + 1) <|
      if v5 = v4 then
        nk_Address_takeSegments_43 v0 v1 v2 v4 v6 1 v5 (v6 + 1) v1 v0 n
      else
        nk_Address_takeSegments_43 v0 v1 v2 v4 v6 0 v5 (v6 + 1) v1 v0 n
    else
      dx n v1 1 v6 <|
      (N_Address_isSegmentByte (n 99 v1 v6) n).bind fun z10 =>
      if z10 = 0 then
        some (.inr (.inr (.inl n)))
      else
        ck (v6 + (-1)) <|
        some (.inl (v5, v6 + (-1), n))
theorem fb_Address_takeSegments_8 {w y : Prop} {g : g_S} {n : NS} {m : YS} {xv0 : Nat} {v0 : Int} (ev0 : xv0 = Int.toNat v0) (rv0 : 0 ≤ v0 ∧ lc (Int.toNat v0) = (99, v0)) {xv1 : Nat} {v1 : Int} (ev1 : xv1 = Int.toNat v1) (rv1 : 0 ≤ v1 ∧ lc (Int.toNat v1) = (99, v1)) {xv2 : Int32} {v2 : Int} (ev2 : xv2 = Int32.ofInt v2) (rv2 : inR v2) {xv4 : Int32} {v4 : Int} (ev4 : xv4 = Int32.ofInt v4) (rv4 : inR v4) {xv5 : Int32} {v5 : Int} (ev5 : xv5 = Int32.ofInt v5) (rv5 : inR v5) {xv6 : Int32} {v6 : Int} (ev6 : xv6 = Int32.ofInt v6) (rv6 : inR v6) (hR : RC w y g n m) : Rf (RS (fun a b => RI a.1 b.1 ∧ RI a.2.1 b.2.1 ∧ RC w y a.2.2 b.2.2 m) (RS (fun a b => RC w y a b m) (RS (fun a b => RC w y a b m) (fun a b => RI a.1 b.1 ∧ RC w y a.2 b.2 m)))) (b_Address_takeSegments_8 xv0 xv1 xv2 xv4 xv5 xv6 g) (nb_Address_takeSegments_8 v0 v1 v2 v4 v5 v6 n) := by
  subst ev0
  subst ev1
  subst ev2
  subst ev4
  subst ev5
  subst ev6
  unfold b_Address_takeSegments_8 nb_Address_takeSegments_8
  refine rf_lt rfl rfl rv6 rv2 ?_ ?_
  · exact rf_ok (by exact ⟨⟨rfl, rv5⟩, hR⟩)
  · refine d_B hR rv1 rfl rv6 (fun h2 h3 => ?_)
    refine rf_eq rfl (e_n 47) (inB.r h3) (show inR 47 by decide) ?_ ?_
    · refine rf_ck (fun h5 => ?_)
      refine rf_eq rfl rfl rv5 rv4 ?_ ?_
      · exact fk_Address_takeSegments_43 rfl rv0 rfl rv1 rfl rv2 rfl rv4 rfl rv6 (e_n 1) (show inR 1 by decide) rfl rv5 (e_add rfl (e_n 1)) h5 rfl rv1 rfl rv0 hR
      · exact fk_Address_takeSegments_43 rfl rv0 rfl rv1 rfl rv2 rfl rv4 rfl rv6 (e_n 0) (show inR 0 by decide) rfl rv5 (e_add rfl (e_n 1)) h5 rfl rv1 rfl rv0 hR
    · refine d_B hR rv1 rfl rv6 (fun h7 h8 => ?_)
      refine rf_bind (f_Address_isSegmentByte rfl (inB.r h8) hR) (fun a12 z10 h => ?_)
      obtain ⟨rfl, r11⟩ := h
      refine rf_eq rfl (e_n 0) (inZ.r r11) (show inR 0 by decide) ?_ ?_
      · exact rf_ok (by exact hR)
      · refine rf_ck (fun h14 => ?_)
        exact rf_ok (by exact ⟨⟨rfl, rv5⟩, ⟨(e_add rfl (e_m 1)), h14⟩, hR⟩)
noncomputable def NL_Address_takeSegments_8 (v0 : Int) (v1 : Int) (v2 : Int) (v4 : Int) (v5 : Int) (v6 : Int) (n : NS) : Option ((NS) ⊕ (NS) ⊕ (Int × NS)) :=
  it (fun s : Int × Int × NS => nb_Address_takeSegments_8 v0 v1 v2 v4 s.1 s.2.1 s.2.2) (v5, v6, n)
theorem fL_Address_takeSegments_8 {w y : Prop} {g : g_S} {n : NS} {m : YS} {xv0 : Nat} {v0 : Int} (ev0 : xv0 = Int.toNat v0) (rv0 : 0 ≤ v0 ∧ lc (Int.toNat v0) = (99, v0)) {xv1 : Nat} {v1 : Int} (ev1 : xv1 = Int.toNat v1) (rv1 : 0 ≤ v1 ∧ lc (Int.toNat v1) = (99, v1)) {xv2 : Int32} {v2 : Int} (ev2 : xv2 = Int32.ofInt v2) (rv2 : inR v2) {xv4 : Int32} {v4 : Int} (ev4 : xv4 = Int32.ofInt v4) (rv4 : inR v4) {xv5 : Int32} {v5 : Int} (ev5 : xv5 = Int32.ofInt v5) (rv5 : inR v5) {xv6 : Int32} {v6 : Int} (ev6 : xv6 = Int32.ofInt v6) (rv6 : inR v6) (hR : RC w y g n m) : Rf (RS (fun a b => RC w y a b m) (RS (fun a b => RC w y a b m) (fun a b => RI a.1 b.1 ∧ RC w y a.2 b.2 m))) (L_Address_takeSegments_8 xv0 xv1 xv2 xv4 xv5 xv6 g) (NL_Address_takeSegments_8 v0 v1 v2 v4 v5 v6 n) := by
  subst ev0
  subst ev1
  subst ev2
  subst ev4
  subst ev5
  subst ev6
  unfold L_Address_takeSegments_8 NL_Address_takeSegments_8
  refine rf_it (I := (fun a b => RI a.1 b.1 ∧ RI a.2.1 b.2.1 ∧ RC w y a.2.2 b.2.2 m)) (fun s t h => ?_) ⟨⟨rfl, rv5⟩, ⟨rfl, rv6⟩, hR⟩
  exact fb_Address_takeSegments_8 rfl rv0 rfl rv1 rfl rv2 rfl rv4 h.1.1 h.1.2 h.2.1.1 h.2.1.2 h.2.2
theorem NL_Address_takeSegments_8_eq (v0 : Int) (v1 : Int) (v2 : Int) (v4 : Int) (v5 : Int) (v6 : Int) (n : NS) : NL_Address_takeSegments_8 v0 v1 v2 v4 v5 v6 n = itc (nb_Address_takeSegments_8 v0 v1 v2 v4 v5 v6 n) (fun s => NL_Address_takeSegments_8 v0 v1 v2 v4 s.1 s.2.1 s.2.2) := it_eq2 (fun s : Int × Int × NS => nb_Address_takeSegments_8 v0 v1 v2 v4 s.1 s.2.1 s.2.2) (v5, v6, n)
noncomputable def nk_Address_takeSegments_99 (w0 : Int) (w1 : Int) (w2 : Int) (w3 : Int) (w4 : Int) (n : NS) : Option (Int × NS) :=
  ty n w4 101 <|
  (N_Address_takeSegment w4 w3 w2 w1 w0 n).bind <| u2 fun z4 n7 =>
  if z4 = 0 then
    some (0, n7)
  else
    some (1, n7)
theorem fk_Address_takeSegments_99 {w y : Prop} {g : g_S} {n : NS} {m : YS} {xw0 : Int32} {w0 : Int} (ew0 : xw0 = Int32.ofInt w0) (rw0 : inR w0) {xw1 : Int32} {w1 : Int} (ew1 : xw1 = Int32.ofInt w1) (rw1 : inR w1) {xw2 : Int32} {w2 : Int} (ew2 : xw2 = Int32.ofInt w2) (rw2 : inR w2) {xw3 : Nat} {w3 : Int} (ew3 : xw3 = Int.toNat w3) (rw3 : 0 ≤ w3 ∧ lc (Int.toNat w3) = (99, w3)) {xw4 : Nat} {w4 : Int} (ew4 : xw4 = Int.toNat w4) (rw4 : 0 ≤ w4 ∧ lc (Int.toNat w4) = (99, w4)) (hR : RC w y g n m) : Rf (fun a b => RZ a.1 b.1 ∧ RC w y a.2 b.2 m) (k_Address_takeSegments_99 xw0 xw1 xw2 xw3 xw4 g) (nk_Address_takeSegments_99 w0 w1 w2 w3 w4 n) := by
  subst ew0
  subst ew1
  subst ew2
  subst ew3
  subst ew4
  unfold k_Address_takeSegments_99 nk_Address_takeSegments_99
  refine rf_ty (t := 101) rw4.1 hR (by decide) (fun h2 h3 => ?_)
  refine v_c2 h2 ?_
  refine rf_c2 (f_Address_takeSegment rfl rw4 rfl rw3 rfl rw2 rfl rw1 rfl rw0 hR) (fun a6 g9 b h => ?_)
  obtain ⟨z4, n7⟩ := b
  refine rf_v2 ?_
  obtain ⟨rfl, r5⟩ := (show RZ a6 z4 from h.1)
  have hR8 : RC w y g9 n7 m := h.2
  refine rf_eq rfl (e_n 0) (inZ.r r5) (show inR 0 by decide) ?_ ?_
  · exact rf_ok (by exact ⟨⟨(e_n 0), (.inl rfl)⟩, hR8⟩)
  · exact rf_ok (by exact ⟨⟨(e_n 1), (.inr rfl)⟩, hR8⟩)
noncomputable def N_Address_takeSegments (v0 : Int) (v1 : Int) (v2 : Int) (v3 : Int) (v4 : Int) (n : NS) : Option (Int × NS) :=
  ck (v3 - 1) <|
  (NL_Address_takeSegments_8 v0 v1 v2 v4 v3 (v3 - 1) n).bind <|
    us (fun n2 =>
    some (0, n2))
    (us (fun n6 =>
    some (0, n6))
    (u2 fun z10 n11 =>
    if z10 = v2 then
      some (1, n11)
    else
      if z10 = v4 then
        nk_Address_takeSegments_99 1 z10 v2 v1 v0 n11
      else
        nk_Address_takeSegments_99 0 z10 v2 v1 v0 n11))
theorem f_Address_takeSegments {w y : Prop} {g : g_S} {n : NS} {m : YS} {xv0 : Nat} {v0 : Int} (ev0 : xv0 = Int.toNat v0) (rv0 : 0 ≤ v0 ∧ lc (Int.toNat v0) = (99, v0)) {xv1 : Nat} {v1 : Int} (ev1 : xv1 = Int.toNat v1) (rv1 : 0 ≤ v1 ∧ lc (Int.toNat v1) = (99, v1)) {xv2 : Int32} {v2 : Int} (ev2 : xv2 = Int32.ofInt v2) (rv2 : inR v2) {xv3 : Int32} {v3 : Int} (ev3 : xv3 = Int32.ofInt v3) (rv3 : inR v3) {xv4 : Int32} {v4 : Int} (ev4 : xv4 = Int32.ofInt v4) (rv4 : inR v4) (hR : RC w y g n m) : Rf (fun a b => RZ a.1 b.1 ∧ RC w y a.2 b.2 m) (M_Address_takeSegments xv0 xv1 xv2 xv3 xv4 g) (N_Address_takeSegments v0 v1 v2 v3 v4 n) := by
  subst ev0
  subst ev1
  subst ev2
  subst ev3
  subst ev4
  unfold M_Address_takeSegments N_Address_takeSegments
  refine rf_ck (fun h1 => ?_)
  refine rf_bind (fL_Address_takeSegments_8 rfl rv0 rfl rv1 rfl rv2 rfl rv4 rfl rv3 (e_sub rfl (e_n 1)) h1 hR) (fun a b h => rf_us h (fun a3 n2 h => ?_) (fun a b h => rf_us h (fun a7 n6 h => ?_) (fun a b h => ?_)))
  · have hR4 : RC w y a3 n2 m := h
    exact rf_ok (by exact ⟨⟨(e_n 0), (.inl rfl)⟩, hR4⟩)
  · have hR8 : RC w y a7 n6 m := h
    exact rf_ok (by exact ⟨⟨(e_n 0), (.inl rfl)⟩, hR8⟩)
  · obtain ⟨a12, a13⟩ := a
    obtain ⟨z10, n11⟩ := b
    refine rf_u2 ?_
    obtain ⟨rfl, r15⟩ := (show RI a12 z10 from h.1)
    have hR14 : RC w y a13 n11 m := h.2
    refine rf_eq rfl rfl r15 rv2 ?_ ?_
    · exact rf_ok (by exact ⟨⟨(e_n 1), (.inr rfl)⟩, hR14⟩)
    · refine rf_eq rfl rfl r15 rv4 ?_ ?_
      · exact fk_Address_takeSegments_99 (e_n 1) (show inR 1 by decide) rfl r15 rfl rv2 rfl rv1 rfl rv0 hR14
      · exact fk_Address_takeSegments_99 (e_n 0) (show inR 0 by decide) rfl r15 rfl rv2 rfl rv1 rfl rv0 hR14
noncomputable def nb_Address_lastSlash_7 (v0 : Int) (v1 : Int) (n : NS) : Option ((Int) ⊕ (Int)) :=
  ty n v0 101 <|
  if (n 99 v0 2) < v1 then
    ty n v0 101 <|
    nn (n 99 v0 0) <|
    dx n (n 99 v0 0) 1 v1 <|
    if (n 99 (n 99 v0 0) v1) = 47 then
      some (.inr v1)
    else
      ck (v1 + (-1)) <|
      some (.inl (v1 + (-1)))
  else
    some (.inr v1)
theorem fb_Address_lastSlash_7 {w y : Prop} {g : g_S} {n : NS} {m : YS} {xv0 : Nat} {v0 : Int} (ev0 : xv0 = Int.toNat v0) (rv0 : 0 ≤ v0 ∧ lc (Int.toNat v0) = (99, v0)) {xv1 : Int32} {v1 : Int} (ev1 : xv1 = Int32.ofInt v1) (rv1 : inR v1) (hR : RC w y g n m) : Rf (RS (fun a b => RI a b) (fun a b => RI a b)) (b_Address_lastSlash_7 xv0 xv1 g) (nb_Address_lastSlash_7 v0 v1 n) := by
  subst ev0
  subst ev1
  unfold b_Address_lastSlash_7 nb_Address_lastSlash_7
  refine rf_ty (t := 101) rv0.1 hR (by decide) (fun h2 h3 => ?_)
  refine c_I (s := 2) hR (ce_dy hR rv0 h3 (by decide)) rfl rfl (fun h1 => ?_)
  refine rf_lt rfl rfl h1 rv1 ?_ ?_
  · refine rf_ty (t := 101) rv0.1 hR (by decide) (fun h6 h7 => ?_)
    refine c_D (s := 0) hR (ce_dy hR rv0 h7 (by decide)) rfl rfl rfl (fun h5 => ?_)
    refine d_B hR h5 rfl rv1 (fun h8 h9 => ?_)
    refine rf_eq rfl (e_n 47) (inB.r h9) (show inR 47 by decide) ?_ ?_
    · exact rf_ok (by exact ⟨rfl, rv1⟩)
    · refine rf_ck (fun h11 => ?_)
      exact rf_ok (by exact ⟨(e_add rfl (e_m 1)), h11⟩)
  · exact rf_ok (by exact ⟨rfl, rv1⟩)
noncomputable def NL_Address_lastSlash_7 (v0 : Int) (v1 : Int) (n : NS) : Option (Int) :=
  it (fun s : Int => nb_Address_lastSlash_7 v0 s n) (v1)
theorem fL_Address_lastSlash_7 {w y : Prop} {g : g_S} {n : NS} {m : YS} {xv0 : Nat} {v0 : Int} (ev0 : xv0 = Int.toNat v0) (rv0 : 0 ≤ v0 ∧ lc (Int.toNat v0) = (99, v0)) {xv1 : Int32} {v1 : Int} (ev1 : xv1 = Int32.ofInt v1) (rv1 : inR v1) (hR : RC w y g n m) : Rf (fun a b => RI a b) (L_Address_lastSlash_7 xv0 xv1 g) (NL_Address_lastSlash_7 v0 v1 n) := by
  subst ev0
  subst ev1
  unfold L_Address_lastSlash_7 NL_Address_lastSlash_7
  refine rf_it (I := (fun a b => RI a b)) (fun s t h => ?_) ⟨rfl, rv1⟩
  exact fb_Address_lastSlash_7 rfl rv0 h.1 h.2 hR
theorem NL_Address_lastSlash_7_eq (v0 : Int) (v1 : Int) (n : NS) : NL_Address_lastSlash_7 v0 v1 n = itc (nb_Address_lastSlash_7 v0 v1 n) (fun s => NL_Address_lastSlash_7 v0 s n) := it_eq2 (fun s : Int => nb_Address_lastSlash_7 v0 s n) (v1)
noncomputable def N_Address_lastSlash (v0 : Int) (n : NS) : Option (Int) :=
  ty n v0 101 <|
  ck ((n 99 v0 3) - 1) <|
  (NL_Address_lastSlash_7 v0 ((n 99 v0 3) - 1) n).bind <| fun z5 =>
  some z5
theorem f_Address_lastSlash {w y : Prop} {g : g_S} {n : NS} {m : YS} {xv0 : Nat} {v0 : Int} (ev0 : xv0 = Int.toNat v0) (rv0 : 0 ≤ v0 ∧ lc (Int.toNat v0) = (99, v0)) (hR : RC w y g n m) : Rf (fun a b => RI a b) (M_Address_lastSlash xv0 g) (N_Address_lastSlash v0 n) := by
  subst ev0
  unfold M_Address_lastSlash N_Address_lastSlash
  refine rf_ty (t := 101) rv0.1 hR (by decide) (fun h2 h3 => ?_)
  refine c_I (s := 3) hR (ce_dy hR rv0 h3 (by decide)) rfl rfl (fun h1 => ?_)
  refine rf_ck (fun h4 => ?_)
  refine rf_bind (fL_Address_lastSlash_7 rfl rv0 (e_sub rfl (e_n 1)) h4 hR) (fun a6 z5 h => ?_)
  obtain ⟨rfl, r7⟩ := (show RI a6 z5 from h)
  exact rf_ok (by exact ⟨rfl, r7⟩)
noncomputable def nb_Address_read_53 (v0 : Int) (v1 : Int) (v2 : Int) (v3 : Int) (v4 : Int) (v5 : Int) (v6 : Int) (n : NS) : Option ((Int) ⊕ (Int)) :=
  if v6 < v5 then
    dx n v1 1 v6 <|
    if (n 99 v1 v6) = 47 then
      some (.inr v6)
    else
      ck (v6 + 1) <|
      some (.inl (v6 + 1))
  else
    some (.inr v6)
theorem fb_Address_read_53 {w y : Prop} {g : g_S} {n : NS} {m : YS} {xv0 : Nat} {v0 : Int} (ev0 : xv0 = Int.toNat v0) (rv0 : 0 ≤ v0 ∧ lc (Int.toNat v0) = (99, v0)) {xv1 : Nat} {v1 : Int} (ev1 : xv1 = Int.toNat v1) (rv1 : 0 ≤ v1 ∧ lc (Int.toNat v1) = (99, v1)) {xv2 : Int32} {v2 : Int} (ev2 : xv2 = Int32.ofInt v2) (rv2 : inR v2) {xv3 : Int32} {v3 : Int} (ev3 : xv3 = Int32.ofInt v3) (rv3 : inR v3) {xv4 : Nat} {v4 : Int} (ev4 : xv4 = Int.toNat v4) (rv4 : 0 ≤ v4 ∧ lc (Int.toNat v4) = (99, v4)) {xv5 : Int32} {v5 : Int} (ev5 : xv5 = Int32.ofInt v5) (rv5 : inR v5) {xv6 : Int32} {v6 : Int} (ev6 : xv6 = Int32.ofInt v6) (rv6 : inR v6) (hR : RC w y g n m) : Rf (RS (fun a b => RI a b) (fun a b => RI a b)) (b_Address_read_53 xv0 xv1 xv2 xv3 xv4 xv5 xv6 g) (nb_Address_read_53 v0 v1 v2 v3 v4 v5 v6 n) := by
  subst ev0
  subst ev1
  subst ev2
  subst ev3
  subst ev4
  subst ev5
  subst ev6
  unfold b_Address_read_53 nb_Address_read_53
  refine rf_lt rfl rfl rv6 rv5 ?_ ?_
  · refine d_B hR rv1 rfl rv6 (fun h2 h3 => ?_)
    refine rf_eq rfl (e_n 47) (inB.r h3) (show inR 47 by decide) ?_ ?_
    · exact rf_ok (by exact ⟨rfl, rv6⟩)
    · refine rf_ck (fun h5 => ?_)
      exact rf_ok (by exact ⟨(e_add rfl (e_n 1)), h5⟩)
  · exact rf_ok (by exact ⟨rfl, rv6⟩)
noncomputable def NL_Address_read_53 (v0 : Int) (v1 : Int) (v2 : Int) (v3 : Int) (v4 : Int) (v5 : Int) (v6 : Int) (n : NS) : Option (Int) :=
  it (fun s : Int => nb_Address_read_53 v0 v1 v2 v3 v4 v5 s n) (v6)
theorem fL_Address_read_53 {w y : Prop} {g : g_S} {n : NS} {m : YS} {xv0 : Nat} {v0 : Int} (ev0 : xv0 = Int.toNat v0) (rv0 : 0 ≤ v0 ∧ lc (Int.toNat v0) = (99, v0)) {xv1 : Nat} {v1 : Int} (ev1 : xv1 = Int.toNat v1) (rv1 : 0 ≤ v1 ∧ lc (Int.toNat v1) = (99, v1)) {xv2 : Int32} {v2 : Int} (ev2 : xv2 = Int32.ofInt v2) (rv2 : inR v2) {xv3 : Int32} {v3 : Int} (ev3 : xv3 = Int32.ofInt v3) (rv3 : inR v3) {xv4 : Nat} {v4 : Int} (ev4 : xv4 = Int.toNat v4) (rv4 : 0 ≤ v4 ∧ lc (Int.toNat v4) = (99, v4)) {xv5 : Int32} {v5 : Int} (ev5 : xv5 = Int32.ofInt v5) (rv5 : inR v5) {xv6 : Int32} {v6 : Int} (ev6 : xv6 = Int32.ofInt v6) (rv6 : inR v6) (hR : RC w y g n m) : Rf (fun a b => RI a b) (L_Address_read_53 xv0 xv1 xv2 xv3 xv4 xv5 xv6 g) (NL_Address_read_53 v0 v1 v2 v3 v4 v5 v6 n) := by
  subst ev0
  subst ev1
  subst ev2
  subst ev3
  subst ev4
  subst ev5
  subst ev6
  unfold L_Address_read_53 NL_Address_read_53
  refine rf_it (I := (fun a b => RI a b)) (fun s t h => ?_) ⟨rfl, rv6⟩
  exact fb_Address_read_53 rfl rv0 rfl rv1 rfl rv2 rfl rv3 rfl rv4 rfl rv5 h.1 h.2 hR
theorem NL_Address_read_53_eq (v0 : Int) (v1 : Int) (v2 : Int) (v3 : Int) (v4 : Int) (v5 : Int) (v6 : Int) (n : NS) : NL_Address_read_53 v0 v1 v2 v3 v4 v5 v6 n = itc (nb_Address_read_53 v0 v1 v2 v3 v4 v5 v6 n) (fun s => NL_Address_read_53 v0 v1 v2 v3 v4 v5 s n) := it_eq2 (fun s : Int => nb_Address_read_53 v0 v1 v2 v3 v4 v5 s n) (v6)
noncomputable def nb_Address_read_3 (v0 : Int) (v1 : Int) (v2 : Int) (v3 : Int) (v4 : Int) (v5 : Int) (n : NS) : Option ((Int) ⊕ (Int)) :=
  if v5 < v3 then
    dx n v1 1 v5 <|
    if (n 99 v1 v5) = 63 then
      some (.inr v5)
    else
      dx n v1 1 v5 <|
      if (n 99 v1 v5) = 35 then
        some (.inr v5)
      else
        ck (v5 + 1) <|
        some (.inl (v5 + 1))
  else
    some (.inr v5)
theorem fb_Address_read_3 {w y : Prop} {g : g_S} {n : NS} {m : YS} {xv0 : Nat} {v0 : Int} (ev0 : xv0 = Int.toNat v0) (rv0 : 0 ≤ v0 ∧ lc (Int.toNat v0) = (99, v0)) {xv1 : Nat} {v1 : Int} (ev1 : xv1 = Int.toNat v1) (rv1 : 0 ≤ v1 ∧ lc (Int.toNat v1) = (99, v1)) {xv2 : Int32} {v2 : Int} (ev2 : xv2 = Int32.ofInt v2) (rv2 : inR v2) {xv3 : Int32} {v3 : Int} (ev3 : xv3 = Int32.ofInt v3) (rv3 : inR v3) {xv4 : Nat} {v4 : Int} (ev4 : xv4 = Int.toNat v4) (rv4 : 0 ≤ v4 ∧ lc (Int.toNat v4) = (99, v4)) {xv5 : Int32} {v5 : Int} (ev5 : xv5 = Int32.ofInt v5) (rv5 : inR v5) (hR : RC w y g n m) : Rf (RS (fun a b => RI a b) (fun a b => RI a b)) (b_Address_read_3 xv0 xv1 xv2 xv3 xv4 xv5 g) (nb_Address_read_3 v0 v1 v2 v3 v4 v5 n) := by
  subst ev0
  subst ev1
  subst ev2
  subst ev3
  subst ev4
  subst ev5
  unfold b_Address_read_3 nb_Address_read_3
  refine rf_lt rfl rfl rv5 rv3 ?_ ?_
  · refine d_B hR rv1 rfl rv5 (fun h2 h3 => ?_)
    refine rf_eq rfl (e_n 63) (inB.r h3) (show inR 63 by decide) ?_ ?_
    · exact rf_ok (by exact ⟨rfl, rv5⟩)
    · refine d_B hR rv1 rfl rv5 (fun h5 h6 => ?_)
      refine rf_eq rfl (e_n 35) (inB.r h6) (show inR 35 by decide) ?_ ?_
      · exact rf_ok (by exact ⟨rfl, rv5⟩)
      · refine rf_ck (fun h8 => ?_)
        exact rf_ok (by exact ⟨(e_add rfl (e_n 1)), h8⟩)
  · exact rf_ok (by exact ⟨rfl, rv5⟩)
noncomputable def NL_Address_read_3 (v0 : Int) (v1 : Int) (v2 : Int) (v3 : Int) (v4 : Int) (v5 : Int) (n : NS) : Option (Int) :=
  it (fun s : Int => nb_Address_read_3 v0 v1 v2 v3 v4 s n) (v5)
theorem fL_Address_read_3 {w y : Prop} {g : g_S} {n : NS} {m : YS} {xv0 : Nat} {v0 : Int} (ev0 : xv0 = Int.toNat v0) (rv0 : 0 ≤ v0 ∧ lc (Int.toNat v0) = (99, v0)) {xv1 : Nat} {v1 : Int} (ev1 : xv1 = Int.toNat v1) (rv1 : 0 ≤ v1 ∧ lc (Int.toNat v1) = (99, v1)) {xv2 : Int32} {v2 : Int} (ev2 : xv2 = Int32.ofInt v2) (rv2 : inR v2) {xv3 : Int32} {v3 : Int} (ev3 : xv3 = Int32.ofInt v3) (rv3 : inR v3) {xv4 : Nat} {v4 : Int} (ev4 : xv4 = Int.toNat v4) (rv4 : 0 ≤ v4 ∧ lc (Int.toNat v4) = (99, v4)) {xv5 : Int32} {v5 : Int} (ev5 : xv5 = Int32.ofInt v5) (rv5 : inR v5) (hR : RC w y g n m) : Rf (fun a b => RI a b) (L_Address_read_3 xv0 xv1 xv2 xv3 xv4 xv5 g) (NL_Address_read_3 v0 v1 v2 v3 v4 v5 n) := by
  subst ev0
  subst ev1
  subst ev2
  subst ev3
  subst ev4
  subst ev5
  unfold L_Address_read_3 NL_Address_read_3
  refine rf_it (I := (fun a b => RI a b)) (fun s t h => ?_) ⟨rfl, rv5⟩
  exact fb_Address_read_3 rfl rv0 rfl rv1 rfl rv2 rfl rv3 rfl rv4 h.1 h.2 hR
theorem NL_Address_read_3_eq (v0 : Int) (v1 : Int) (v2 : Int) (v3 : Int) (v4 : Int) (v5 : Int) (n : NS) : NL_Address_read_3 v0 v1 v2 v3 v4 v5 n = itc (nb_Address_read_3 v0 v1 v2 v3 v4 v5 n) (fun s => NL_Address_read_3 v0 v1 v2 v3 v4 s n) := it_eq2 (fun s : Int => nb_Address_read_3 v0 v1 v2 v3 v4 s n) (v5)
noncomputable def nk_Address_read_239 (v0 : Int) (v1 : Int) (v3 : Int) (v5 : Int) (n : NS) : Option (Int × NS) :=
  ty n v0 101 <|
  nn (n 99 v0 0) <|
  ty n v0 101 <|
  ty n v0 101 <|
  (N_Address_takePath v0 (n 99 v0 0) (n 99 v0 5) 160 n).bind fun n10 =>
  ty n10 v0 101 <|
  (N_Address_readTail v0 v1 v5 v3 (-1) n10).bind <| u2 fun z16 n19 =>
  some (z16, n19)
theorem fk_Address_read_239 {w y : Prop} {g : g_S} {n : NS} {m : YS} {xv0 : Nat} {v0 : Int} (ev0 : xv0 = Int.toNat v0) (rv0 : 0 ≤ v0 ∧ lc (Int.toNat v0) = (99, v0)) {xv1 : Nat} {v1 : Int} (ev1 : xv1 = Int.toNat v1) (rv1 : 0 ≤ v1 ∧ lc (Int.toNat v1) = (99, v1)) {xv3 : Int32} {v3 : Int} (ev3 : xv3 = Int32.ofInt v3) (rv3 : inR v3) {xv5 : Int32} {v5 : Int} (ev5 : xv5 = Int32.ofInt v5) (rv5 : inR v5) (hR : RC w y g n m) : Rf (fun a b => RZ a.1 b.1 ∧ RC w y a.2 b.2 m) (k_Address_read_239 xv0 xv1 xv3 xv5 g) (nk_Address_read_239 v0 v1 v3 v5 n) := by
  subst ev0
  subst ev1
  subst ev3
  subst ev5
  unfold k_Address_read_239 nk_Address_read_239
  refine rf_ty (t := 101) rv0.1 hR (by decide) (fun h2 h3 => ?_)
  refine c_D (s := 0) hR (ce_dy hR rv0 h3 (by decide)) rfl rfl rfl (fun h1 => ?_)
  refine rf_ty (t := 101) rv0.1 hR (by decide) (fun h5 h6 => ?_)
  refine c_I (s := 5) hR (ce_dy hR rv0 h6 (by decide)) rfl rfl (fun h4 => ?_)
  refine rf_ty (t := 101) rv0.1 hR (by decide) (fun h8 h9 => ?_)
  refine v_c h8 ?_
  refine rf_bind (f_Address_takePath rfl rv0 rfl h1 rfl h4 (e_n 160) (show inR 160 by decide) hR) (fun g12 n10 hR11 => ?_)
  refine rf_ty (t := 101) rv0.1 hR11 (by decide) (fun h14 h15 => ?_)
  refine v_c2 h14 ?_
  refine rf_c2 (f_Address_readTail rfl rv0 rfl rv1 rfl rv5 rfl rv3 ro_n (fun z => absurd (show (0 : Int) ≤ -1 from z) (by decide)) hR11) (fun a18 g21 b h => ?_)
  obtain ⟨z16, n19⟩ := b
  refine rf_v2 ?_
  obtain ⟨rfl, r17⟩ := (show RZ a18 z16 from h.1)
  have hR20 : RC w y g21 n19 m := h.2
  refine rf_tz rfl r17 ?_
  exact rf_ok (by exact ⟨⟨rfl, r17⟩, hR20⟩)
noncomputable def nk_Address_read_221 (v0 : Int) (v1 : Int) (v3 : Int) (v5 : Int) (v6 : Int) (n : NS) : Option (Int × NS) :=
  ty n v0 101 <|
  if (n 99 v0 6) = 0 then
    ty n v0 101 <|
    (N_Address_takeSegment v0 v1 v6 v6 0 n).bind <| u2 fun z8 n11 =>
    nk_Address_read_239 v0 v1 v3 v5 n11
  else
    nk_Address_read_239 v0 v1 v3 v5 n
theorem fk_Address_read_221 {w y : Prop} {g : g_S} {n : NS} {m : YS} {xv0 : Nat} {v0 : Int} (ev0 : xv0 = Int.toNat v0) (rv0 : 0 ≤ v0 ∧ lc (Int.toNat v0) = (99, v0)) {xv1 : Nat} {v1 : Int} (ev1 : xv1 = Int.toNat v1) (rv1 : 0 ≤ v1 ∧ lc (Int.toNat v1) = (99, v1)) {xv3 : Int32} {v3 : Int} (ev3 : xv3 = Int32.ofInt v3) (rv3 : inR v3) {xv5 : Int32} {v5 : Int} (ev5 : xv5 = Int32.ofInt v5) (rv5 : inR v5) {xv6 : Int32} {v6 : Int} (ev6 : xv6 = Int32.ofInt v6) (rv6 : inR v6) (hR : RC w y g n m) : Rf (fun a b => RZ a.1 b.1 ∧ RC w y a.2 b.2 m) (k_Address_read_221 xv0 xv1 xv3 xv5 xv6 g) (nk_Address_read_221 v0 v1 v3 v5 v6 n) := by
  subst ev0
  subst ev1
  subst ev3
  subst ev5
  subst ev6
  unfold k_Address_read_221 nk_Address_read_221
  refine rf_ty (t := 101) rv0.1 hR (by decide) (fun h2 h3 => ?_)
  refine c_I (s := 6) hR (ce_dy hR rv0 h3 (by decide)) rfl rfl (fun h1 => ?_)
  refine rf_eq rfl (e_n 0) h1 (show inR 0 by decide) ?_ ?_
  · refine rf_ty (t := 101) rv0.1 hR (by decide) (fun h6 h7 => ?_)
    refine v_c2 h6 ?_
    refine rf_c2 (f_Address_takeSegment rfl rv0 rfl rv1 rfl rv6 rfl rv6 (e_n 0) (show inR 0 by decide) hR) (fun a10 g13 b h => ?_)
    obtain ⟨z8, n11⟩ := b
    refine rf_v2 ?_
    obtain ⟨rfl, r9⟩ := (show RZ a10 z8 from h.1)
    have hR12 : RC w y g13 n11 m := h.2
    exact fk_Address_read_239 rfl rv0 rfl rv1 rfl rv3 rfl rv5 hR12
  · exact fk_Address_read_239 rfl rv0 rfl rv1 rfl rv3 rfl rv5 hR
noncomputable def nk_Address_read_115 (v0 : Int) (v1 : Int) (v2 : Int) (v3 : Int) (v4 : Int) (v5 : Int) (v6 : Int) (n : NS) : Option (Int × NS) :=
  if v2 = v5 then
    ty n v4 101 <|
    nn (n 99 v4 0) <|
    ty n v4 101 <|
    ty n v4 101 <|
    ty n v0 101 <|
    (N_Address_takePath v0 (n 99 v4 0) (n 99 v4 2) (n 99 v4 3) n).bind fun n14 =>
    ty n14 v0 101 <|
    (N_Address_readTail v0 v1 v5 v3 v4 n14).bind <| u2 fun z20 n23 =>
    some (z20, n23)
  else
    ty n v0 101 <|
    st (nw n 99 v0 5 160) fun n30 =>
    ty n30 v0 101 <|
    st (nw n30 99 v0 6 0) fun n36 =>
    ty n36 v0 101 <|
    st (nw n36 99 v0 7 0) fun n42 =>
    ty n42 v0 101 <|
    (N_Address_takeSegments v0 v1 v6 v5 v5 n42).bind <| u2 fun z48 n51 =>
    if z48 = 0 then
      some (0, n51)
    else
      dx n51 v1 1 v2 <|
      if (n51 99 v1 v2) = 47 then
        nk_Address_read_221 v0 v1 v3 v5 v6 n51
      else
        ty n51 v4 101 <|
        nn (n51 99 v4 0) <|
        ty n51 v4 101 <|
        ty n51 v4 101 <|
        (N_Address_lastSlash v4 n51).bind fun z68 =>
        ty n51 v4 101 <|
        ty n51 v0 101 <|
        (N_Address_takeSegments v0 (n51 99 v4 0) (n51 99 v4 2) z68 (n51 99 v4 3) n51).bind <| u2 fun z77 n80 =>
        if z77 = 0 then
          some (0, n80)
        else
          nk_Address_read_221 v0 v1 v3 v5 v6 n80
theorem fk_Address_read_115 {w y : Prop} {g : g_S} {n : NS} {m : YS} {xv0 : Nat} {v0 : Int} (ev0 : xv0 = Int.toNat v0) (rv0 : 0 ≤ v0 ∧ lc (Int.toNat v0) = (99, v0)) {xv1 : Nat} {v1 : Int} (ev1 : xv1 = Int.toNat v1) (rv1 : 0 ≤ v1 ∧ lc (Int.toNat v1) = (99, v1)) {xv2 : Int32} {v2 : Int} (ev2 : xv2 = Int32.ofInt v2) (rv2 : inR v2) {xv3 : Int32} {v3 : Int} (ev3 : xv3 = Int32.ofInt v3) (rv3 : inR v3) {xv4 : Nat} {v4 : Int} (ev4 : xv4 = Int.toNat v4) (rv4 : 0 ≤ v4 ∧ lc (Int.toNat v4) = (99, v4)) {xv5 : Int32} {v5 : Int} (ev5 : xv5 = Int32.ofInt v5) (rv5 : inR v5) {xv6 : Int32} {v6 : Int} (ev6 : xv6 = Int32.ofInt v6) (rv6 : inR v6) (hR : RC w y g n m) : Rf (fun a b => RZ a.1 b.1 ∧ RC w y a.2 b.2 m) (k_Address_read_115 xv0 xv1 xv2 xv3 xv4 xv5 xv6 g) (nk_Address_read_115 v0 v1 v2 v3 v4 v5 v6 n) := by
  subst ev0
  subst ev1
  subst ev2
  subst ev3
  subst ev4
  subst ev5
  subst ev6
  unfold k_Address_read_115 nk_Address_read_115
  refine rf_eq rfl rfl rv2 rv5 ?_ ?_
  · refine rf_ty (t := 101) rv4.1 hR (by decide) (fun h3 h4 => ?_)
    refine c_D (s := 0) hR (ce_dy hR rv4 h4 (by decide)) rfl rfl rfl (fun h2 => ?_)
    refine rf_ty (t := 101) rv4.1 hR (by decide) (fun h6 h7 => ?_)
    refine c_I (s := 2) hR (ce_dy hR rv4 h7 (by decide)) rfl rfl (fun h5 => ?_)
    refine rf_ty (t := 101) rv4.1 hR (by decide) (fun h9 h10 => ?_)
    refine c_I (s := 3) hR (ce_dy hR rv4 h10 (by decide)) rfl rfl (fun h8 => ?_)
    refine rf_ty (t := 101) rv0.1 hR (by decide) (fun h12 h13 => ?_)
    refine v_c h12 ?_
    refine rf_bind (f_Address_takePath rfl rv0 rfl h2 rfl h5 rfl h8 hR) (fun g16 n14 hR15 => ?_)
    refine rf_ty (t := 101) rv0.1 hR15 (by decide) (fun h18 h19 => ?_)
    refine v_c2 h18 ?_
    refine rf_c2 (f_Address_readTail rfl rv0 rfl rv1 rfl rv5 rfl rv3 (ro_s rv4.1) (fun _ => rv4.2) hR15) (fun a22 g25 b h => ?_)
    obtain ⟨z20, n23⟩ := b
    refine rf_v2 ?_
    obtain ⟨rfl, r21⟩ := (show RZ a22 z20 from h.1)
    have hR24 : RC w y g25 n23 m := h.2
    refine rf_tz rfl r21 ?_
    exact rf_ok (by exact ⟨⟨rfl, r21⟩, hR24⟩)
  · refine rf_ty (t := 101) rv0.1 hR (by decide) (fun h28 h29 => ?_)
    refine p_I (s := 5) hR (ce_dy hR rv0 h29 (by decide)) rfl ⟨rfl, rfl, by decide⟩ (e_n 160) (show inR 160 by decide) (fun g32 n30 hR31 => ?_)
    refine rf_ty (t := 101) rv0.1 hR31 (by decide) (fun h34 h35 => ?_)
    refine p_I (s := 6) hR31 (ce_dy hR31 rv0 h35 (by decide)) rfl ⟨rfl, rfl, by decide⟩ (e_n 0) (show inR 0 by decide) (fun g38 n36 hR37 => ?_)
    refine rf_ty (t := 101) rv0.1 hR37 (by decide) (fun h40 h41 => ?_)
    refine p_I (s := 7) hR37 (ce_dy hR37 rv0 h41 (by decide)) rfl ⟨rfl, rfl, by decide⟩ (e_n 0) (show inR 0 by decide) (fun g44 n42 hR43 => ?_)
    refine rf_ty (t := 101) rv0.1 hR43 (by decide) (fun h46 h47 => ?_)
    refine v_c2 h46 ?_
    refine rf_c2 (f_Address_takeSegments rfl rv0 rfl rv1 rfl rv6 rfl rv5 rfl rv5 hR43) (fun a50 g53 b h => ?_)
    obtain ⟨z48, n51⟩ := b
    refine rf_v2 ?_
    obtain ⟨rfl, r49⟩ := (show RZ a50 z48 from h.1)
    have hR52 : RC w y g53 n51 m := h.2
    refine rf_eq rfl (e_n 0) (inZ.r r49) (show inR 0 by decide) ?_ ?_
    · exact rf_ok (by exact ⟨⟨(e_n 0), (.inl rfl)⟩, hR52⟩)
    · refine d_B hR52 rv1 rfl rv2 (fun h56 h57 => ?_)
      refine rf_eq rfl (e_n 47) (inB.r h57) (show inR 47 by decide) ?_ ?_
      · exact fk_Address_read_221 rfl rv0 rfl rv1 rfl rv3 rfl rv5 rfl rv6 hR52
      · refine rf_ty (t := 101) rv4.1 hR52 (by decide) (fun h60 h61 => ?_)
        refine c_D (s := 0) hR52 (ce_dy hR52 rv4 h61 (by decide)) rfl rfl rfl (fun h59 => ?_)
        refine rf_ty (t := 101) rv4.1 hR52 (by decide) (fun h63 h64 => ?_)
        refine c_I (s := 2) hR52 (ce_dy hR52 rv4 h64 (by decide)) rfl rfl (fun h62 => ?_)
        refine rf_ty (t := 101) rv4.1 hR52 (by decide) (fun h66 h67 => ?_)
        refine v_c h66 ?_
        refine rf_bind (f_Address_lastSlash rfl rv4 hR52) (fun a70 z68 h => ?_)
        obtain ⟨rfl, r69⟩ := h
        refine rf_ty (t := 101) rv4.1 hR52 (by decide) (fun h72 h73 => ?_)
        refine c_I (s := 3) hR52 (ce_dy hR52 rv4 h73 (by decide)) rfl rfl (fun h71 => ?_)
        refine rf_ty (t := 101) rv0.1 hR52 (by decide) (fun h75 h76 => ?_)
        refine v_c2 h75 ?_
        refine rf_c2 (f_Address_takeSegments rfl rv0 rfl h59 rfl h62 rfl r69 rfl h71 hR52) (fun a79 g82 b h => ?_)
        obtain ⟨z77, n80⟩ := b
        refine rf_v2 ?_
        obtain ⟨rfl, r78⟩ := (show RZ a79 z77 from h.1)
        have hR81 : RC w y g82 n80 m := h.2
        refine rf_eq rfl (e_n 0) (inZ.r r78) (show inR 0 by decide) ?_ ?_
        · exact rf_ok (by exact ⟨⟨(e_n 0), (.inl rfl)⟩, hR81⟩)
        · exact fk_Address_read_221 rfl rv0 rfl rv1 rfl rv3 rfl rv5 rfl rv6 hR81
noncomputable def nk_Address_read_75 (v0 : Int) (v1 : Int) (v2 : Int) (v3 : Int) (v4 : Int) (v5 : Int) (v6 : Int) (n : NS) : Option (Int × NS) :=
  ck (v2 + 2) <|
  (N_Bytes_isName v1 (v2 + 2) v6 n).bind fun z3 =>
  if z3 = 0 then
    some (0, n)
  else
    ty n v0 101 <|
    (N_Address_takeSite v0 v1 v2 v6 n).bind fun n11 =>
    nk_Address_read_115 v0 v1 v2 v3 v4 v5 v6 n11
theorem fk_Address_read_75 {w y : Prop} {g : g_S} {n : NS} {m : YS} {xv0 : Nat} {v0 : Int} (ev0 : xv0 = Int.toNat v0) (rv0 : 0 ≤ v0 ∧ lc (Int.toNat v0) = (99, v0)) {xv1 : Nat} {v1 : Int} (ev1 : xv1 = Int.toNat v1) (rv1 : 0 ≤ v1 ∧ lc (Int.toNat v1) = (99, v1)) {xv2 : Int32} {v2 : Int} (ev2 : xv2 = Int32.ofInt v2) (rv2 : inR v2) {xv3 : Int32} {v3 : Int} (ev3 : xv3 = Int32.ofInt v3) (rv3 : inR v3) {xv4 : Nat} {v4 : Int} (ev4 : xv4 = Int.toNat v4) (rv4 : 0 ≤ v4 ∧ lc (Int.toNat v4) = (99, v4)) {xv5 : Int32} {v5 : Int} (ev5 : xv5 = Int32.ofInt v5) (rv5 : inR v5) {xv6 : Int32} {v6 : Int} (ev6 : xv6 = Int32.ofInt v6) (rv6 : inR v6) (hR : RC w y g n m) : Rf (fun a b => RZ a.1 b.1 ∧ RC w y a.2 b.2 m) (k_Address_read_75 xv0 xv1 xv2 xv3 xv4 xv5 xv6 g) (nk_Address_read_75 v0 v1 v2 v3 v4 v5 v6 n) := by
  subst ev0
  subst ev1
  subst ev2
  subst ev3
  subst ev4
  subst ev5
  subst ev6
  unfold k_Address_read_75 nk_Address_read_75
  refine rf_ck (fun h1 => ?_)
  refine rf_bind (f_Bytes_isName rfl rv1 (e_add rfl (e_n 2)) h1 rfl rv6 hR) (fun a5 z3 h => ?_)
  obtain ⟨rfl, r4⟩ := h
  refine rf_eq rfl (e_n 0) (inZ.r r4) (show inR 0 by decide) ?_ ?_
  · exact rf_ok (by exact ⟨⟨(e_n 0), (.inl rfl)⟩, hR⟩)
  · refine rf_ty (t := 101) rv0.1 hR (by decide) (fun h9 h10 => ?_)
    refine v_c h9 ?_
    refine rf_bind (f_Address_takeSite rfl rv0 rfl rv1 rfl rv2 rfl rv6 hR) (fun g13 n11 hR12 => ?_)
    exact fk_Address_read_115 rfl rv0 rfl rv1 rfl rv2 rfl rv3 rfl rv4 rfl rv5 rfl rv6 hR12
noncomputable def nk_Address_read_33 (v0 : Int) (v1 : Int) (v2 : Int) (v3 : Int) (v4 : Int) (v5 : Int) (n : NS) : Option (Int × NS) :=
  (N_Bytes_stands 1000002 v1 v2 v5 n).bind fun z3 =>
  if z3 = 0 then
    ty n v4 101 <|
    nn (n 99 v4 0) <|
    ty n v4 101 <|
    ty n v0 101 <|
    (N_Address_takeSite v0 (n 99 v4 0) 0 (n 99 v4 2) n).bind fun n16 =>
    nk_Address_read_115 v0 v1 v2 v3 v4 v5 v2 n16
  else
    ck (v2 + 2) <|
    (NL_Address_read_53 v0 v1 v2 v3 v4 v5 (v2 + 2) n).bind <| fun z20 =>
    nk_Address_read_75 v0 v1 v2 v3 v4 v5 z20 n
theorem fk_Address_read_33 {w y : Prop} {g : g_S} {n : NS} {m : YS} {xv0 : Nat} {v0 : Int} (ev0 : xv0 = Int.toNat v0) (rv0 : 0 ≤ v0 ∧ lc (Int.toNat v0) = (99, v0)) {xv1 : Nat} {v1 : Int} (ev1 : xv1 = Int.toNat v1) (rv1 : 0 ≤ v1 ∧ lc (Int.toNat v1) = (99, v1)) {xv2 : Int32} {v2 : Int} (ev2 : xv2 = Int32.ofInt v2) (rv2 : inR v2) {xv3 : Int32} {v3 : Int} (ev3 : xv3 = Int32.ofInt v3) (rv3 : inR v3) {xv4 : Nat} {v4 : Int} (ev4 : xv4 = Int.toNat v4) (rv4 : 0 ≤ v4 ∧ lc (Int.toNat v4) = (99, v4)) {xv5 : Int32} {v5 : Int} (ev5 : xv5 = Int32.ofInt v5) (rv5 : inR v5) (hR : RC w y g n m) : Rf (fun a b => RZ a.1 b.1 ∧ RC w y a.2 b.2 m) (k_Address_read_33 xv0 xv1 xv2 xv3 xv4 xv5 g) (nk_Address_read_33 v0 v1 v2 v3 v4 v5 n) := by
  subst ev0
  subst ev1
  subst ev2
  subst ev3
  subst ev4
  subst ev5
  unfold k_Address_read_33 nk_Address_read_33
  refine rf_bind (f_Bytes_stands rfl rv1 rfl rv2 rfl rv5 hR) (fun a5 z3 h => ?_)
  obtain ⟨rfl, r4⟩ := h
  refine rf_eq rfl (e_n 0) (inZ.r r4) (show inR 0 by decide) ?_ ?_
  · refine rf_ty (t := 101) rv4.1 hR (by decide) (fun h8 h9 => ?_)
    refine c_D (s := 0) hR (ce_dy hR rv4 h9 (by decide)) rfl rfl rfl (fun h7 => ?_)
    refine rf_ty (t := 101) rv4.1 hR (by decide) (fun h11 h12 => ?_)
    refine c_I (s := 2) hR (ce_dy hR rv4 h12 (by decide)) rfl rfl (fun h10 => ?_)
    refine rf_ty (t := 101) rv0.1 hR (by decide) (fun h14 h15 => ?_)
    refine v_c h14 ?_
    refine rf_bind (f_Address_takeSite rfl rv0 rfl h7 (e_n 0) (show inR 0 by decide) rfl h10 hR) (fun g18 n16 hR17 => ?_)
    exact fk_Address_read_115 rfl rv0 rfl rv1 rfl rv2 rfl rv3 rfl rv4 rfl rv5 rfl rv2 hR17
  · refine rf_ck (fun h19 => ?_)
    refine rf_bind (fL_Address_read_53 rfl rv0 rfl rv1 rfl rv2 rfl rv3 rfl rv4 rfl rv5 (e_add rfl (e_n 2)) h19 hR) (fun a21 z20 h => ?_)
    obtain ⟨rfl, r22⟩ := (show RI a21 z20 from h)
    exact fk_Address_read_75 rfl rv0 rfl rv1 rfl rv2 rfl rv3 rfl rv4 rfl rv5 rfl r22 hR
noncomputable def N_Address_read (v0 : Int) (v1 : Int) (v2 : Int) (v3 : Int) (v4 : Int) (n : NS) : Option (Int × NS) :=
  (NL_Address_read_3 v0 v1 v2 v3 v4 v2 n).bind <| fun z1 =>
  nk_Address_read_33 v0 v1 v2 v3 v4 z1 n
theorem f_Address_read {w y : Prop} {g : g_S} {n : NS} {m : YS} {xv0 : Nat} {v0 : Int} (ev0 : xv0 = Int.toNat v0) (rv0 : 0 ≤ v0 ∧ lc (Int.toNat v0) = (99, v0)) {xv1 : Nat} {v1 : Int} (ev1 : xv1 = Int.toNat v1) (rv1 : 0 ≤ v1 ∧ lc (Int.toNat v1) = (99, v1)) {xv2 : Int32} {v2 : Int} (ev2 : xv2 = Int32.ofInt v2) (rv2 : inR v2) {xv3 : Int32} {v3 : Int} (ev3 : xv3 = Int32.ofInt v3) (rv3 : inR v3) {xv4 : Nat} {v4 : Int} (ev4 : xv4 = Int.toNat v4) (rv4 : 0 ≤ v4 ∧ lc (Int.toNat v4) = (99, v4)) (hR : RC w y g n m) : Rf (fun a b => RZ a.1 b.1 ∧ RC w y a.2 b.2 m) (M_Address_read xv0 xv1 xv2 xv3 xv4 g) (N_Address_read v0 v1 v2 v3 v4 n) := by
  subst ev0
  subst ev1
  subst ev2
  subst ev3
  subst ev4
  unfold M_Address_read N_Address_read
  refine rf_bind (fL_Address_read_3 rfl rv0 rfl rv1 rfl rv2 rfl rv3 rfl rv4 rfl rv2 hR) (fun a2 z1 h => ?_)
  obtain ⟨rfl, r3⟩ := (show RI a2 z1 from h)
  exact fk_Address_read_33 rfl rv0 rfl rv1 rfl rv2 rfl rv3 rfl rv4 rfl r3 hR
noncomputable def N_Address_copy (v0 : Int) (v1 : Int) (n : NS) : Option (NS) :=
  ty n v1 101 <|
  nn (n 99 v1 0) <|
  ty n v0 101 <|
  nn (n 99 v0 0) <|
  ty n v1 101 <|
  cpg n 1 (n 99 v1 0) 0 (n 99 v0 0) 0 (n 99 v1 5) <|
  st (nwA n 99 (n 99 v0 0) (cpf (n 99 (n 99 v1 0)) (n 99 (n 99 v0 0)) 0 0 (n 99 v1 5))) fun n11 =>
  ty n11 v1 101 <|
  ty n11 v0 101 <|
  st (nw n11 99 v0 1 (n11 99 v1 1)) fun n20 =>
  ty n20 v1 101 <|
  ty n20 v0 101 <|
  st (nw n20 99 v0 2 (n20 99 v1 2)) fun n29 =>
  ty n29 v1 101 <|
  ty n29 v0 101 <|
  st (nw n29 99 v0 3 (n29 99 v1 3)) fun n38 =>
  ty n38 v1 101 <|
  ty n38 v0 101 <|
  st (nw n38 99 v0 4 (n38 99 v1 4)) fun n47 =>
  ty n47 v1 101 <|
  ty n47 v0 101 <|
  st (nw n47 99 v0 5 (n47 99 v1 5)) fun n56 =>
  some n56
theorem f_Address_copy {w y : Prop} {g : g_S} {n : NS} {m : YS} {xv0 : Nat} {v0 : Int} (ev0 : xv0 = Int.toNat v0) (rv0 : 0 ≤ v0 ∧ lc (Int.toNat v0) = (99, v0)) {xv1 : Nat} {v1 : Int} (ev1 : xv1 = Int.toNat v1) (rv1 : 0 ≤ v1 ∧ lc (Int.toNat v1) = (99, v1)) (hR : RC w y g n m) : Rf (fun a b => RC w y a b m) (M_Address_copy xv0 xv1 g) (N_Address_copy v0 v1 n) := by
  subst ev0
  subst ev1
  unfold M_Address_copy N_Address_copy
  refine rf_ty (t := 101) rv1.1 hR (by decide) (fun h2 h3 => ?_)
  refine c_D (s := 0) hR (ce_dy hR rv1 h3 (by decide)) rfl rfl rfl (fun h1 => ?_)
  refine rf_ty (t := 101) rv0.1 hR (by decide) (fun h5 h6 => ?_)
  refine c_D (s := 0) hR (ce_dy hR rv0 h6 (by decide)) rfl rfl rfl (fun h4 => ?_)
  refine rf_ty (t := 101) rv1.1 hR (by decide) (fun h8 h9 => ?_)
  refine c_I (s := 5) hR (ce_dy hR rv1 h9 (by decide)) rfl rfl (fun h7 => ?_)
  refine n_cp hR (by decide) h1 h4 (e_n 0) (show inR 0 by decide) (e_n 0) (show inR 0 by decide) rfl h7 (fun g13 n11 hR12 => ?_)
  refine rf_ty (t := 101) rv1.1 hR12 (by decide) (fun h15 h16 => ?_)
  refine c_L (s := 1) hR12 (ce_dy hR12 rv1 h16 (by decide)) rfl rfl (fun h14 => ?_)
  refine rf_ty (t := 101) rv0.1 hR12 (by decide) (fun h18 h19 => ?_)
  refine p_L (s := 1) hR12 (ce_dy hR12 rv0 h19 (by decide)) rfl rfl rfl h14 (fun g22 n20 hR21 => ?_)
  refine rf_ty (t := 101) rv1.1 hR21 (by decide) (fun h24 h25 => ?_)
  refine c_I (s := 2) hR21 (ce_dy hR21 rv1 h25 (by decide)) rfl rfl (fun h23 => ?_)
  refine rf_ty (t := 101) rv0.1 hR21 (by decide) (fun h27 h28 => ?_)
  refine p_I (s := 2) hR21 (ce_dy hR21 rv0 h28 (by decide)) rfl ⟨rfl, rfl, by decide⟩ rfl h23 (fun g31 n29 hR30 => ?_)
  refine rf_ty (t := 101) rv1.1 hR30 (by decide) (fun h33 h34 => ?_)
  refine c_I (s := 3) hR30 (ce_dy hR30 rv1 h34 (by decide)) rfl rfl (fun h32 => ?_)
  refine rf_ty (t := 101) rv0.1 hR30 (by decide) (fun h36 h37 => ?_)
  refine p_I (s := 3) hR30 (ce_dy hR30 rv0 h37 (by decide)) rfl ⟨rfl, rfl, by decide⟩ rfl h32 (fun g40 n38 hR39 => ?_)
  refine rf_ty (t := 101) rv1.1 hR39 (by decide) (fun h42 h43 => ?_)
  refine c_I (s := 4) hR39 (ce_dy hR39 rv1 h43 (by decide)) rfl rfl (fun h41 => ?_)
  refine rf_ty (t := 101) rv0.1 hR39 (by decide) (fun h45 h46 => ?_)
  refine p_I (s := 4) hR39 (ce_dy hR39 rv0 h46 (by decide)) rfl ⟨rfl, rfl, by decide⟩ rfl h41 (fun g49 n47 hR48 => ?_)
  refine rf_ty (t := 101) rv1.1 hR48 (by decide) (fun h51 h52 => ?_)
  refine c_I (s := 5) hR48 (ce_dy hR48 rv1 h52 (by decide)) rfl rfl (fun h50 => ?_)
  refine rf_ty (t := 101) rv0.1 hR48 (by decide) (fun h54 h55 => ?_)
  refine p_I (s := 5) hR48 (ce_dy hR48 rv0 h55 (by decide)) rfl ⟨rfl, rfl, by decide⟩ rfl h50 (fun g58 n56 hR57 => ?_)
  exact rf_ok (by exact hR57)
noncomputable def nb_Bytes_pack_1_4 (v0 : Nat) (v1 : Int) (v3 : Int) (n : NS) : Option ((Int × Int) ⊕ (Int)) :=
  (sN v0).bind fun z2 =>
  if v3 < z2 then
    if v3 < 8 then
      ckL (v1 * 256) <|
      (sC v0 v3).bind fun z8 =>
      or8 (v1 * 256) z8 <|
      ckL ((v1 * 256) + z8) <|
      ck (v3 + 1) <|
      some (.inl ((v1 * 256) + z8, v3 + 1))
    else
      some (.inr v1)
  else
    some (.inr v1)
theorem fb_Bytes_pack_1_4 {w y : Prop} {g : g_S} {n : NS} {m : YS} {v0 : Nat} {xv1 : Int64} {v1 : Int} (ev1 : xv1 = Int64.ofInt v1) (rv1 : inL v1) {xv3 : Int32} {v3 : Int} (ev3 : xv3 = Int32.ofInt v3) (rv3 : inR v3) (hR : RC w y g n m) : Rf (RS (fun a b => RJ a.1 b.1 ∧ RI a.2 b.2) (fun a b => RJ a b)) (b_Bytes_pack_1_4 v0 xv1 xv3 g) (nb_Bytes_pack_1_4 v0 v1 v3 n) := by
  subst ev1
  subst ev3
  unfold b_Bytes_pack_1_4 nb_Bytes_pack_1_4
  refine t_N (fun z2 r3 => ?_)
  refine rf_lt rfl rfl rv3 r3 ?_ ?_
  · refine rf_lt rfl (e_n 8) rv3 (show inR 8 by decide) ?_ ?_
    · refine rf_ckL (fun h6 => ?_)
      refine t_C rfl rv3 (fun z8 r9 _ _ => ?_)
      refine rf_or8 (fun h10 => ?_)
      refine rf_ckL (fun h11 => ?_)
      refine rf_ck (fun h12 => ?_)
      exact rf_ok (by exact ⟨⟨(f_or8 (f_shl8 rfl) (f_i2l rfl r9) h10), h11⟩, ⟨(e_add rfl (e_n 1)), h12⟩⟩)
    · exact rf_ok (by exact ⟨rfl, rv1⟩)
  · exact rf_ok (by exact ⟨rfl, rv1⟩)
noncomputable def NL_Bytes_pack_1_4 (v0 : Nat) (v1 : Int) (v3 : Int) (n : NS) : Option (Int) :=
  it (fun s : Int × Int => nb_Bytes_pack_1_4 v0 s.1 s.2 n) (v1, v3)
theorem fL_Bytes_pack_1_4 {w y : Prop} {g : g_S} {n : NS} {m : YS} {v0 : Nat} {xv1 : Int64} {v1 : Int} (ev1 : xv1 = Int64.ofInt v1) (rv1 : inL v1) {xv3 : Int32} {v3 : Int} (ev3 : xv3 = Int32.ofInt v3) (rv3 : inR v3) (hR : RC w y g n m) : Rf (fun a b => RJ a b) (L_Bytes_pack_1_4 v0 xv1 xv3 g) (NL_Bytes_pack_1_4 v0 v1 v3 n) := by
  subst ev1
  subst ev3
  unfold L_Bytes_pack_1_4 NL_Bytes_pack_1_4
  refine rf_it (I := (fun a b => RJ a.1 b.1 ∧ RI a.2 b.2)) (fun s t h => ?_) ⟨⟨rfl, rv1⟩, ⟨rfl, rv3⟩⟩
  exact fb_Bytes_pack_1_4 h.1.1 h.1.2 h.2.1 h.2.2 hR
theorem NL_Bytes_pack_1_4_eq (v0 : Nat) (v1 : Int) (v3 : Int) (n : NS) : NL_Bytes_pack_1_4 v0 v1 v3 n = itc (nb_Bytes_pack_1_4 v0 v1 v3 n) (fun s => NL_Bytes_pack_1_4 v0 s.1 s.2 n) := it_eq2 (fun s : Int × Int => nb_Bytes_pack_1_4 v0 s.1 s.2 n) (v1, v3)
noncomputable def N_Bytes_pack_1 (v0 : Nat) (n : NS) : Option (Int) :=
  (NL_Bytes_pack_1_4 v0 0 0 n).bind <| fun z1 =>
  some z1
theorem f_Bytes_pack_1 {w y : Prop} {g : g_S} {n : NS} {m : YS} {v0 : Nat} (hR : RC w y g n m) : Rf (fun a b => RJ a b) (M_Bytes_pack_1 v0 g) (N_Bytes_pack_1 v0 n) := by
  unfold M_Bytes_pack_1 N_Bytes_pack_1
  refine rf_bind (fL_Bytes_pack_1_4 (f_n 0) (show inL 0 by decide) (e_n 0) (show inR 0 by decide) hR) (fun a2 z1 h => ?_)
  obtain ⟨rfl, r3⟩ := (show RJ a2 z1 from h)
  exact rf_ok (by exact ⟨rfl, r3⟩)
noncomputable def N_Bytes_clear (v0 : Int) (n : NS) : Option (NS) :=
  st (nw n 4 v0 2 0) fun n2 =>
  some n2
theorem f_Bytes_clear {w y : Prop} {g : g_S} {n : NS} {m : YS} (hw : w) {xv0 : Nat} {v0 : Int} (ev0 : xv0 = aBy v0) (rv0 : 0 ≤ v0 ∧ v0 ≤ 631) (hR : RC w y g n m) : Rf (fun a b => RC w y a b m) (M_Bytes_clear xv0 g) (N_Bytes_clear v0 n) := by
  subst ev0
  unfold M_Bytes_clear N_Bytes_clear
  refine p_I (s := 2) hR (ce_by hR hw rv0) rfl ⟨rfl, rfl, by decide⟩ (e_n 0) (show inR 0 by decide) (fun g4 n2 hR3 => ?_)
  exact rf_ok (by exact hR3)
noncomputable def nb_Tree_grow_3 (v1 : Int) (v2 : Int) (v3 : Int) (v5 : Int) (n : NS) : Option ((Int) ⊕ (Int)) :=
  if v5 < 119 then
    ix v5 120 <|
    if (n 7 v5 0) = (-1) then
      some (.inr v5)
    else
      ck (v5 + 1) <|
      some (.inl (v5 + 1))
  else
    some (.inr v5)
theorem fb_Tree_grow_3 {w y : Prop} {g : g_S} {n : NS} {m : YS} (hw : w) {xv1 : Int32} {v1 : Int} (ev1 : xv1 = Int32.ofInt v1) (rv1 : inR v1) {xv2 : Int32} {v2 : Int} (ev2 : xv2 = Int32.ofInt v2) (rv2 : inR v2) {xv3 : Int64} {v3 : Int} (ev3 : xv3 = Int64.ofInt v3) (rv3 : inL v3) {xv5 : Int32} {v5 : Int} (ev5 : xv5 = Int32.ofInt v5) (rv5 : inR v5) (hR : RC w y g n m) : Rf (RS (fun a b => RI a b) (fun a b => RI a b)) (b_Tree_grow_3 5 xv1 xv2 xv3 xv5 g) (nb_Tree_grow_3 v1 v2 v3 v5 n) := by
  subst ev1
  subst ev2
  subst ev3
  subst ev5
  unfold b_Tree_grow_3 nb_Tree_grow_3
  refine rf_lt rfl (e_n 119) rv5 (show inR 119 by decide) ?_ ?_
  · refine c_S hR hw (sK10 hR hw) (by decide) (show srf 10 0 0 = some 6 from rfl) ?_
    refine s_S (p := aNd (_)) (L := 120) hR hw (sA20 hR hw) (by decide) (lA20 hR hw) rfl rfl rv5 (fun z1 z2 => srf20 z1 z2) (fun h3 => ?_)
    refine c_I (s := 0) hR (ce_nd hR hw (And.intro h3.1 (Int.le_of_lt h3.2))) rfl rfl (fun h5 => ?_)
    refine rf_eq rfl (e_m 1) h5 (show inR (-1) by decide) ?_ ?_
    · exact rf_ok (by exact ⟨rfl, rv5⟩)
    · refine rf_ck (fun h7 => ?_)
      exact rf_ok (by exact ⟨(e_add rfl (e_n 1)), h7⟩)
  · exact rf_ok (by exact ⟨rfl, rv5⟩)
noncomputable def NL_Tree_grow_3 (v1 : Int) (v2 : Int) (v3 : Int) (v5 : Int) (n : NS) : Option (Int) :=
  it (fun s : Int => nb_Tree_grow_3 v1 v2 v3 s n) (v5)
theorem fL_Tree_grow_3 {w y : Prop} {g : g_S} {n : NS} {m : YS} (hw : w) {xv1 : Int32} {v1 : Int} (ev1 : xv1 = Int32.ofInt v1) (rv1 : inR v1) {xv2 : Int32} {v2 : Int} (ev2 : xv2 = Int32.ofInt v2) (rv2 : inR v2) {xv3 : Int64} {v3 : Int} (ev3 : xv3 = Int64.ofInt v3) (rv3 : inL v3) {xv5 : Int32} {v5 : Int} (ev5 : xv5 = Int32.ofInt v5) (rv5 : inR v5) (hR : RC w y g n m) : Rf (fun a b => RI a b) (L_Tree_grow_3 5 xv1 xv2 xv3 xv5 g) (NL_Tree_grow_3 v1 v2 v3 v5 n) := by
  subst ev1
  subst ev2
  subst ev3
  subst ev5
  unfold L_Tree_grow_3 NL_Tree_grow_3
  refine rf_it (I := (fun a b => RI a b)) (fun s t h => ?_) ⟨rfl, rv5⟩
  exact fb_Tree_grow_3 hw rfl rv1 rfl rv2 rfl rv3 h.1 h.2 hR
theorem NL_Tree_grow_3_eq (v1 : Int) (v2 : Int) (v3 : Int) (v5 : Int) (n : NS) : NL_Tree_grow_3 v1 v2 v3 v5 n = itc (nb_Tree_grow_3 v1 v2 v3 v5 n) (fun s => NL_Tree_grow_3 v1 v2 v3 s n) := it_eq2 (fun s : Int => nb_Tree_grow_3 v1 v2 v3 s n) (v5)
noncomputable def nk_Tree_grow_214 (v5 : Int) (v7 : Int) (n : NS) : Option (Int × NS) :=
  st (nw n 7 v7 4 v5) fun n2 =>
  ck ((n2 7 v7 6) + 1) <|
  st (nw n2 7 v7 6 ((n2 7 v7 6) + 1)) fun n8 =>
  some (v5, n8)
theorem fk_Tree_grow_214 {w y : Prop} {g : g_S} {n : NS} {m : YS} (hw : w) {xv5 : Int32} {v5 : Int} (ev5 : xv5 = Int32.ofInt v5) (rv5 : inR v5) {xv7 : Nat} {v7 : Int} (ev7 : xv7 = aNd v7) (rv7 : 0 ≤ v7 ∧ v7 ≤ 120) (hR : RC w y g n m) : Rf (fun a b => RI a.1 b.1 ∧ RC w y a.2 b.2 m) (k_Tree_grow_214 xv5 xv7 g) (nk_Tree_grow_214 v5 v7 n) := by
  subst ev5
  subst ev7
  unfold k_Tree_grow_214 nk_Tree_grow_214
  refine p_I (s := 4) hR (ce_nd hR hw rv7) rfl ⟨rfl, rfl, by decide⟩ rfl rv5 (fun g4 n2 hR3 => ?_)
  refine c_I (s := 6) hR3 (ce_nd hR3 hw rv7) rfl rfl (fun h5 => ?_)
  refine rf_ck (fun h6 => ?_)
  refine p_I (s := 6) hR3 (ce_nd hR3 hw rv7) rfl ⟨rfl, rfl, by decide⟩ (e_add rfl (e_n 1)) h6 (fun g10 n8 hR9 => ?_)
  exact rf_ok (by exact ⟨⟨rfl, rv5⟩, hR9⟩)
noncomputable def nk_Tree_grow_30 (v1 : Int) (v2 : Int) (v3 : Int) (v5 : Int) (n : NS) : Option (Int × NS) :=
  ix v5 120 <|
  st (nw n 7 v5 0 v2) fun n5 =>
  st (nw n5 7 v5 1 v3) fun n9 =>
  st (nw n9 7 v5 2 v1) fun n13 =>
  st (nw n13 7 v5 3 (-1)) fun n17 =>
  st (nw n17 7 v5 4 (-1)) fun n21 =>
  st (nw n21 7 v5 5 (-1)) fun n25 =>
  st (nw n25 7 v5 6 0) fun n29 =>
  st (nw n29 7 v5 7 0) fun n33 =>
  st (nw n33 7 v5 12 0) fun n37 =>
  (N_Bytes_clear (5 * v5) n37).bind fun n42 =>
  st (nw n42 7 v5 15 0) fun n46 =>
  st (nw n46 7 v5 16 0) fun n50 =>
  ckL ((n50 10 0 7) + 1) <|
  st (nw n50 10 0 7 ((n50 10 0 7) + 1)) fun n56 =>
  st (nw n56 7 v5 10 (n56 10 0 7)) fun n61 =>
  ck ((n61 10 0 5) + 1) <|
  st (nw n61 10 0 5 ((n61 10 0 5) + 1)) fun n67 =>
  ck ((n67 10 0 6) + 1) <|
  st (nw n67 10 0 6 ((n67 10 0 6) + 1)) fun n73 =>
  if v1 = (-1) then
    some (v5, n73)
  else
    ix v1 120 <|
    ck ((n73 7 v1 7) + 1) <|
    st (nw n73 7 v5 7 ((n73 7 v1 7) + 1)) fun n84 =>
    if (n84 7 v1 4) = (-1) then
      st (nw n84 7 v1 3 v5) fun n90 =>
      nk_Tree_grow_214 v5 v1 n90
    else
      ix (n84 7 v1 4) 120 <|
      st (nw n84 7 (n84 7 v1 4) 5 v5) fun n98 =>
      nk_Tree_grow_214 v5 v1 n98
theorem fk_Tree_grow_30 {w y : Prop} {g : g_S} {n : NS} {m : YS} (hw : w) {xv1 : Int32} {v1 : Int} (ev1 : xv1 = Int32.ofInt v1) (rv1 : inR v1) {xv2 : Int32} {v2 : Int} (ev2 : xv2 = Int32.ofInt v2) (rv2 : inR v2) {xv3 : Int64} {v3 : Int} (ev3 : xv3 = Int64.ofInt v3) (rv3 : inL v3) {xv5 : Int32} {v5 : Int} (ev5 : xv5 = Int32.ofInt v5) (rv5 : inR v5) (hR : RC w y g n m) : Rf (fun a b => RI a.1 b.1 ∧ RC w y a.2 b.2 m) (k_Tree_grow_30 5 xv1 xv2 xv3 xv5 g) (nk_Tree_grow_30 v1 v2 v3 v5 n) := by
  subst ev1
  subst ev2
  subst ev3
  subst ev5
  unfold k_Tree_grow_30 nk_Tree_grow_30
  refine c_S hR hw (sK10 hR hw) (by decide) (show srf 10 0 0 = some 6 from rfl) ?_
  refine s_S (p := aNd (_)) (L := 120) hR hw (sA20 hR hw) (by decide) (lA20 hR hw) rfl rfl rv5 (fun z1 z2 => srf20 z1 z2) (fun h2 => ?_)
  refine p_I (s := 0) hR (ce_nd hR hw (And.intro h2.1 (Int.le_of_lt h2.2))) rfl ⟨rfl, rfl, by decide⟩ rfl rv2 (fun g7 n5 hR6 => ?_)
  refine p_L (s := 1) hR6 (ce_nd hR6 hw (And.intro h2.1 (Int.le_of_lt h2.2))) rfl rfl rfl rv3 (fun g11 n9 hR10 => ?_)
  refine p_I (s := 2) hR10 (ce_nd hR10 hw (And.intro h2.1 (Int.le_of_lt h2.2))) rfl ⟨rfl, rfl, by decide⟩ rfl rv1 (fun g15 n13 hR14 => ?_)
  refine p_I (s := 3) hR14 (ce_nd hR14 hw (And.intro h2.1 (Int.le_of_lt h2.2))) rfl ⟨rfl, rfl, by decide⟩ (e_m 1) (show inR (-1) by decide) (fun g19 n17 hR18 => ?_)
  refine p_I (s := 4) hR18 (ce_nd hR18 hw (And.intro h2.1 (Int.le_of_lt h2.2))) rfl ⟨rfl, rfl, by decide⟩ (e_m 1) (show inR (-1) by decide) (fun g23 n21 hR22 => ?_)
  refine p_I (s := 5) hR22 (ce_nd hR22 hw (And.intro h2.1 (Int.le_of_lt h2.2))) rfl ⟨rfl, rfl, by decide⟩ (e_m 1) (show inR (-1) by decide) (fun g27 n25 hR26 => ?_)
  refine p_I (s := 6) hR26 (ce_nd hR26 hw (And.intro h2.1 (Int.le_of_lt h2.2))) rfl ⟨rfl, rfl, by decide⟩ (e_n 0) (show inR 0 by decide) (fun g31 n29 hR30 => ?_)
  refine p_I (s := 7) hR30 (ce_nd hR30 hw (And.intro h2.1 (Int.le_of_lt h2.2))) rfl ⟨rfl, rfl, by decide⟩ (e_n 0) (show inR 0 by decide) (fun g35 n33 hR34 => ?_)
  refine p_I (s := 12) hR34 (ce_nd hR34 hw (And.intro h2.1 (Int.le_of_lt h2.2))) rfl ⟨rfl, rfl, by decide⟩ (e_n 0) (show inR 0 by decide) (fun g39 n37 hR38 => ?_)
  refine c_S (p := _) hR38 hw (ce_nd hR38 hw (And.intro h2.1 (Int.le_of_lt h2.2))) (Nat.lt_trans (nd_lt (And.intro h2.1 (Int.le_of_lt h2.2))).1 (by decide)) rfl ?_
  refine v_c (ce_by hR38 hw (by5 (And.intro h2.1 (Int.le_of_lt h2.2)))).1 ?_
  refine rf_bind (f_Bytes_clear hw rfl (by5 (And.intro h2.1 (Int.le_of_lt h2.2))) hR38) (fun g44 n42 hR43 => ?_)
  refine p_Z (s := 15) hR43 (ce_nd hR43 hw (And.intro h2.1 (Int.le_of_lt h2.2))) rfl ⟨rfl, by decide⟩ (e_n 0) (.inl rfl) (fun g48 n46 hR47 => ?_)
  refine p_Z (s := 16) hR47 (ce_nd hR47 hw (And.intro h2.1 (Int.le_of_lt h2.2))) rfl ⟨rfl, by decide⟩ (e_n 0) (.inl rfl) (fun g52 n50 hR51 => ?_)
  refine c_L (s := 7) hR51 (sK10 hR51 hw) rfl rfl (fun h53 => ?_)
  refine rf_ckL (fun h54 => ?_)
  refine p_L (s := 7) hR51 (sK10 hR51 hw) rfl rfl (f_add rfl (f_n 1)) h54 (fun g58 n56 hR57 => ?_)
  refine c_L (s := 7) hR57 (sK10 hR57 hw) rfl rfl (fun h59 => ?_)
  refine p_L (s := 10) hR57 (ce_nd hR57 hw (And.intro h2.1 (Int.le_of_lt h2.2))) rfl rfl rfl h59 (fun g63 n61 hR62 => ?_)
  refine c_I (s := 5) hR62 (sK10 hR62 hw) rfl rfl (fun h64 => ?_)
  refine rf_ck (fun h65 => ?_)
  refine p_I (s := 5) hR62 (sK10 hR62 hw) rfl ⟨rfl, rfl, by decide⟩ (e_add rfl (e_n 1)) h65 (fun g69 n67 hR68 => ?_)
  refine c_I (s := 6) hR68 (sK10 hR68 hw) rfl rfl (fun h70 => ?_)
  refine rf_ck (fun h71 => ?_)
  refine p_I (s := 6) hR68 (sK10 hR68 hw) rfl ⟨rfl, rfl, by decide⟩ (e_add rfl (e_n 1)) h71 (fun g75 n73 hR74 => ?_)
  refine rf_eq rfl (e_m 1) rv1 (show inR (-1) by decide) ?_ ?_
  · exact rf_ok (by exact ⟨⟨rfl, rv5⟩, hR74⟩)
  · refine c_S hR74 hw (sK10 hR74 hw) (by decide) (show srf 10 0 0 = some 6 from rfl) ?_
    refine s_S (p := aNd (_)) (L := 120) hR74 hw (sA20 hR74 hw) (by decide) (lA20 hR74 hw) rfl rfl rv1 (fun z1 z2 => srf20 z1 z2) (fun h79 => ?_)
    refine c_I (s := 7) hR74 (ce_nd hR74 hw (And.intro h79.1 (Int.le_of_lt h79.2))) rfl rfl (fun h81 => ?_)
    refine rf_ck (fun h82 => ?_)
    refine p_I (s := 7) hR74 (ce_nd hR74 hw (And.intro h2.1 (Int.le_of_lt h2.2))) rfl ⟨rfl, rfl, by decide⟩ (e_add rfl (e_n 1)) h82 (fun g86 n84 hR85 => ?_)
    refine c_I (s := 4) hR85 (ce_nd hR85 hw (And.intro h79.1 (Int.le_of_lt h79.2))) rfl rfl (fun h87 => ?_)
    refine rf_eq rfl (e_m 1) h87 (show inR (-1) by decide) ?_ ?_
    · refine p_I (s := 3) hR85 (ce_nd hR85 hw (And.intro h79.1 (Int.le_of_lt h79.2))) rfl ⟨rfl, rfl, by decide⟩ rfl rv5 (fun g92 n90 hR91 => ?_)
      exact fk_Tree_grow_214 hw rfl rv5 rfl (And.intro h79.1 (Int.le_of_lt h79.2)) hR91
    · refine c_S hR85 hw (sK10 hR85 hw) (by decide) (show srf 10 0 0 = some 6 from rfl) ?_
      refine c_I (s := 4) hR85 (ce_nd hR85 hw (And.intro h79.1 (Int.le_of_lt h79.2))) rfl rfl (fun h94 => ?_)
      refine s_S (p := aNd (_)) (L := 120) hR85 hw (sA20 hR85 hw) (by decide) (lA20 hR85 hw) rfl rfl h94 (fun z1 z2 => srf20 z1 z2) (fun h95 => ?_)
      refine p_I (s := 5) hR85 (ce_nd hR85 hw (And.intro h95.1 (Int.le_of_lt h95.2))) rfl ⟨rfl, rfl, by decide⟩ rfl rv5 (fun g100 n98 hR99 => ?_)
      exact fk_Tree_grow_214 hw rfl rv5 rfl (And.intro h79.1 (Int.le_of_lt h79.2)) hR99
noncomputable def N_Tree_grow (v1 : Int) (v2 : Int) (v3 : Int) (n : NS) : Option (Int × NS) :=
  (NL_Tree_grow_3 v1 v2 v3 0 n).bind <| fun z1 =>
  nk_Tree_grow_30 v1 v2 v3 z1 n
theorem f_Tree_grow {w y : Prop} {g : g_S} {n : NS} {m : YS} (hw : w) {xv1 : Int32} {v1 : Int} (ev1 : xv1 = Int32.ofInt v1) (rv1 : inR v1) {xv2 : Int32} {v2 : Int} (ev2 : xv2 = Int32.ofInt v2) (rv2 : inR v2) {xv3 : Int64} {v3 : Int} (ev3 : xv3 = Int64.ofInt v3) (rv3 : inL v3) (hR : RC w y g n m) : Rf (fun a b => RI a.1 b.1 ∧ RC w y a.2 b.2 m) (M_Tree_grow 5 xv1 xv2 xv3 g) (N_Tree_grow v1 v2 v3 n) := by
  subst ev1
  subst ev2
  subst ev3
  unfold M_Tree_grow N_Tree_grow
  refine rf_bind (fL_Tree_grow_3 hw rfl rv1 rfl rv2 rfl rv3 (e_n 0) (show inR 0 by decide) hR) (fun a2 z1 h => ?_)
  obtain ⟨rfl, r3⟩ := (show RI a2 z1 from h)
  exact fk_Tree_grow_30 hw rfl rv1 rfl rv2 rfl rv3 rfl r3 hR
noncomputable def nb_Tree_clear_2 (v1 : Int) (n : NS) : Option ((Int × NS) ⊕ (NS)) :=
  if v1 < 120 then
    ix v1 120 <|
    st (nw n 7 v1 0 (-1)) fun n6 =>
    ck (v1 + 1) <|
    some (.inl (v1 + 1, n6))
  else
    some (.inr n)
theorem fb_Tree_clear_2 {w y : Prop} {g : g_S} {n : NS} {m : YS} (hw : w) {xv1 : Int32} {v1 : Int} (ev1 : xv1 = Int32.ofInt v1) (rv1 : inR v1) (hR : RC w y g n m) : Rf (RS (fun a b => RI a.1 b.1 ∧ RC w y a.2 b.2 m) (fun a b => RC w y a b m)) (b_Tree_clear_2 5 xv1 g) (nb_Tree_clear_2 v1 n) := by
  subst ev1
  unfold b_Tree_clear_2 nb_Tree_clear_2
  refine rf_lt rfl (e_n 120) rv1 (show inR 120 by decide) ?_ ?_
  · refine c_S hR hw (sK10 hR hw) (by decide) (show srf 10 0 0 = some 6 from rfl) ?_
    refine s_S (p := aNd (_)) (L := 120) hR hw (sA20 hR hw) (by decide) (lA20 hR hw) rfl rfl rv1 (fun z1 z2 => srf20 z1 z2) (fun h3 => ?_)
    refine p_I (s := 0) hR (ce_nd hR hw (And.intro h3.1 (Int.le_of_lt h3.2))) rfl ⟨rfl, rfl, by decide⟩ (e_m 1) (show inR (-1) by decide) (fun g8 n6 hR7 => ?_)
    refine rf_ck (fun h9 => ?_)
    exact rf_ok (by exact ⟨⟨(e_add rfl (e_n 1)), h9⟩, hR7⟩)
  · exact rf_ok (by exact hR)
noncomputable def NL_Tree_clear_2 (v1 : Int) (n : NS) : Option (NS) :=
  it (fun s : Int × NS => nb_Tree_clear_2 s.1 s.2) (v1, n)
theorem fL_Tree_clear_2 {w y : Prop} {g : g_S} {n : NS} {m : YS} (hw : w) {xv1 : Int32} {v1 : Int} (ev1 : xv1 = Int32.ofInt v1) (rv1 : inR v1) (hR : RC w y g n m) : Rf (fun a b => RC w y a b m) (L_Tree_clear_2 5 xv1 g) (NL_Tree_clear_2 v1 n) := by
  subst ev1
  unfold L_Tree_clear_2 NL_Tree_clear_2
  refine rf_it (I := (fun a b => RI a.1 b.1 ∧ RC w y a.2 b.2 m)) (fun s t h => ?_) ⟨⟨rfl, rv1⟩, hR⟩
  exact fb_Tree_clear_2 hw h.1.1 h.1.2 h.2
theorem NL_Tree_clear_2_eq (v1 : Int) (n : NS) : NL_Tree_clear_2 v1 n = itc (nb_Tree_clear_2 v1 n) (fun s => NL_Tree_clear_2 s.1 s.2) := it_eq2 (fun s : Int × NS => nb_Tree_clear_2 s.1 s.2) (v1, n)
noncomputable def N_Tree_clear (n : NS) : Option (NS) :=
  (NL_Tree_clear_2 0 n).bind <| fun n1 =>
  st (nw n1 10 0 5 0) fun n5 =>
  ix 0 16 <|
  (N_Tree_grow (-1) 0 (n5 21 0 0) n5).bind <| u2 fun z12 n15 =>
  some n15
theorem f_Tree_clear {w y : Prop} {g : g_S} {n : NS} {m : YS} (hw : w) (hR : RC w y g n m) : Rf (fun a b => RC w y a b m) (M_Tree_clear 5 g) (N_Tree_clear n) := by
  unfold M_Tree_clear N_Tree_clear
  refine rf_bind (fL_Tree_clear_2 hw (e_n 0) (show inR 0 by decide) hR) (fun a2 n1 h => ?_)
  have hR3 : RC w y a2 n1 m := h
  refine p_I (s := 5) hR3 (sK10 hR3 hw) rfl ⟨rfl, rfl, by decide⟩ (e_n 0) (show inR 0 by decide) (fun g7 n5 hR6 => ?_)
  refine c_S hR6 hw (sK10 hR6 hw) (by decide) (show srf 10 0 1 = some 7 from rfl) ?_
  refine s_L (L := 16) hR6 (sA21 hR6 hw) (lA21 hR6 hw) rfl (e_n 0) (show inR 0 by decide) (fun h9 h10 => ?_)
  refine v_c2 (sK10 hR6 hw).1 ?_
  refine rf_c2 (f_Tree_grow hw (e_m 1) (show inR (-1) by decide) (e_n 0) (show inR 0 by decide) rfl h10 hR6) (fun a14 g17 b h => ?_)
  obtain ⟨z12, n15⟩ := b
  refine rf_v2 ?_
  obtain ⟨rfl, r13⟩ := (show RI a14 z12 from h.1)
  have hR16 : RC w y g17 n15 m := h.2
  exact rf_ok (by exact hR16)
noncomputable def nb_H_addFour_3 (v1 : Int) (v2 : Int) (n : NS) : Option ((Int × NS) ⊕ (NS)) :=
  if v2 < 0 then
    some (.inr n)
  else
    sh5 v2 <|
    (N_Bytes_add 605 (v1 / 2 ^ Int.toNat v2) n).bind fun n5 =>
    ck (v2 + (-8)) <|
    some (.inl (v2 + (-8), n5))
theorem fb_H_addFour_3 {w y : Prop} {g : g_S} {n : NS} {m : YS} (hw : w) {xv1 : Int32} {v1 : Int} (ev1 : xv1 = Int32.ofInt v1) (rv1 : inR v1) {xv2 : Int32} {v2 : Int} (ev2 : xv2 = Int32.ofInt v2) (rv2 : inR v2) (hR : RC w y g n m) : Rf (RS (fun a b => RI a.1 b.1 ∧ RC w y a.2 b.2 m) (fun a b => RC w y a b m)) (b_H_addFour_3 0 xv1 xv2 g) (nb_H_addFour_3 v1 v2 n) := by
  subst ev1
  subst ev2
  unfold b_H_addFour_3 nb_H_addFour_3
  refine rf_lt rfl (e_n 0) rv2 (show inR 0 by decide) ?_ ?_
  · exact rf_ok (by exact hR)
  · refine c_S hR hw (sK11 hR hw) (by decide) (show srf 11 0 0 = some 1 from rfl) ?_
    refine rf_sh5 (fun h3 => ?_)
    refine v_c (bS605 ▸ (ce_by hR hw (by decide))).1 ?_
    refine rf_bind (f_Bytes_add hw bS605.symm (by decide) (e_shr rfl rv1 rfl h3) (qR rv1) hR) (fun g7 n5 hR6 => ?_)
    refine rf_ck (fun h8 => ?_)
    exact rf_ok (by exact ⟨⟨(e_add rfl (e_m 8)), h8⟩, hR6⟩)
noncomputable def NL_H_addFour_3 (v1 : Int) (v2 : Int) (n : NS) : Option (NS) :=
  it (fun s : Int × NS => nb_H_addFour_3 v1 s.1 s.2) (v2, n)
theorem fL_H_addFour_3 {w y : Prop} {g : g_S} {n : NS} {m : YS} (hw : w) {xv1 : Int32} {v1 : Int} (ev1 : xv1 = Int32.ofInt v1) (rv1 : inR v1) {xv2 : Int32} {v2 : Int} (ev2 : xv2 = Int32.ofInt v2) (rv2 : inR v2) (hR : RC w y g n m) : Rf (fun a b => RC w y a b m) (L_H_addFour_3 0 xv1 xv2 g) (NL_H_addFour_3 v1 v2 n) := by
  subst ev1
  subst ev2
  unfold L_H_addFour_3 NL_H_addFour_3
  refine rf_it (I := (fun a b => RI a.1 b.1 ∧ RC w y a.2 b.2 m)) (fun s t h => ?_) ⟨⟨rfl, rv2⟩, hR⟩
  exact fb_H_addFour_3 hw rfl rv1 h.1.1 h.1.2 h.2
theorem NL_H_addFour_3_eq (v1 : Int) (v2 : Int) (n : NS) : NL_H_addFour_3 v1 v2 n = itc (nb_H_addFour_3 v1 v2 n) (fun s => NL_H_addFour_3 v1 s.1 s.2) := it_eq2 (fun s : Int × NS => nb_H_addFour_3 v1 s.1 s.2) (v2, n)
noncomputable def N_H_addFour (v1 : Int) (n : NS) : Option (NS) :=
  (NL_H_addFour_3 v1 24 n).bind <| fun n1 =>
  some n1
theorem f_H_addFour {w y : Prop} {g : g_S} {n : NS} {m : YS} (hw : w) {xv1 : Int32} {v1 : Int} (ev1 : xv1 = Int32.ofInt v1) (rv1 : inR v1) (hR : RC w y g n m) : Rf (fun a b => RC w y a b m) (M_H_addFour 0 xv1 g) (N_H_addFour v1 n) := by
  subst ev1
  unfold M_H_addFour N_H_addFour
  refine rf_bind (fL_H_addFour_3 hw rfl rv1 (e_n 24) (show inR 24 by decide) hR) (fun a2 n1 h => ?_)
  have hR3 : RC w y a2 n1 m := h
  exact rf_ok (by exact hR3)
noncomputable def N_H_feed (v1 : Int) (v2 : Int) (v3 : Int) (v4 : Int) (v5 : Int) (n : NS) : Option (Int × NS) :=
  ck ((n 4 605 2) + 20) <|
  if 2000 < ((n 4 605 2) + 20) then
    some ((-1), n)
  else
    (N_H_addFour v1 n).bind fun n7 =>
    (N_H_addFour v2 n7).bind fun n11 =>
    (N_H_addFour v3 n11).bind fun n15 =>
    (N_H_addFour v4 n15).bind fun n19 =>
    (N_H_addFour v5 n19).bind fun n23 =>
    some ((n23 4 605 2), n23)
theorem f_H_feed {w y : Prop} {g : g_S} {n : NS} {m : YS} (hw : w) {xv1 : Int32} {v1 : Int} (ev1 : xv1 = Int32.ofInt v1) (rv1 : inR v1) {xv2 : Int32} {v2 : Int} (ev2 : xv2 = Int32.ofInt v2) (rv2 : inR v2) {xv3 : Int32} {v3 : Int} (ev3 : xv3 = Int32.ofInt v3) (rv3 : inR v3) {xv4 : Int32} {v4 : Int} (ev4 : xv4 = Int32.ofInt v4) (rv4 : inR v4) {xv5 : Int32} {v5 : Int} (ev5 : xv5 = Int32.ofInt v5) (rv5 : inR v5) (hR : RC w y g n m) : Rf (fun a b => RI a.1 b.1 ∧ RC w y a.2 b.2 m) (M_H_feed 0 xv1 xv2 xv3 xv4 xv5 g) (N_H_feed v1 v2 v3 v4 v5 n) := by
  subst ev1
  subst ev2
  subst ev3
  subst ev4
  subst ev5
  unfold M_H_feed N_H_feed
  refine c_S hR hw (sK11 hR hw) (by decide) (show srf 11 0 0 = some 1 from rfl) ?_
  refine c_I (s := 2) hR (bS605 ▸ (ce_by hR hw (by decide))) rfl rfl (fun h2 => ?_)
  refine rf_ck (fun h3 => ?_)
  refine rf_lt (e_n 2000) (e_add rfl (e_n 20)) (show inR 2000 by decide) h3 ?_ ?_
  · exact rf_ok (by exact ⟨⟨(e_m 1), (show inR (-1) by decide)⟩, hR⟩)
  · refine v_c (sK11 hR hw).1 ?_
    refine rf_bind (f_H_addFour hw rfl rv1 hR) (fun g9 n7 hR8 => ?_)
    refine v_c (sK11 hR8 hw).1 ?_
    refine rf_bind (f_H_addFour hw rfl rv2 hR8) (fun g13 n11 hR12 => ?_)
    refine v_c (sK11 hR12 hw).1 ?_
    refine rf_bind (f_H_addFour hw rfl rv3 hR12) (fun g17 n15 hR16 => ?_)
    refine v_c (sK11 hR16 hw).1 ?_
    refine rf_bind (f_H_addFour hw rfl rv4 hR16) (fun g21 n19 hR20 => ?_)
    refine v_c (sK11 hR20 hw).1 ?_
    refine rf_bind (f_H_addFour hw rfl rv5 hR20) (fun g25 n23 hR24 => ?_)
    refine c_S hR24 hw (sK11 hR24 hw) (by decide) (show srf 11 0 0 = some 1 from rfl) ?_
    refine c_I (s := 2) hR24 (bS605 ▸ (ce_by hR24 hw (by decide))) rfl rfl (fun h27 => ?_)
    exact rf_ok (by exact ⟨⟨rfl, h27⟩, hR24⟩)
noncomputable def N_H_end (v1 : Int) (n : NS) : Option (Int × NS) :=
  if v1 < 0 then
    some ((-1), n)
  else
    if (n 4 605 2) < v1 then
      some ((-1), n)
    else
      st (nw n 4 605 2 v1) fun n9 =>
      some (v1, n9)
theorem f_H_end {w y : Prop} {g : g_S} {n : NS} {m : YS} (hw : w) {xv1 : Int32} {v1 : Int} (ev1 : xv1 = Int32.ofInt v1) (rv1 : inR v1) (hR : RC w y g n m) : Rf (fun a b => RI a.1 b.1 ∧ RC w y a.2 b.2 m) (M_H_end 0 xv1 g) (N_H_end v1 n) := by
  subst ev1
  unfold M_H_end N_H_end
  refine rf_lt rfl (e_n 0) rv1 (show inR 0 by decide) ?_ ?_
  · exact rf_ok (by exact ⟨⟨(e_m 1), (show inR (-1) by decide)⟩, hR⟩)
  · refine c_S hR hw (sK11 hR hw) (by decide) (show srf 11 0 0 = some 1 from rfl) ?_
    refine c_I (s := 2) hR (bS605 ▸ (ce_by hR hw (by decide))) rfl rfl (fun h4 => ?_)
    refine rf_lt rfl rfl h4 rv1 ?_ ?_
    · exact rf_ok (by exact ⟨⟨(e_m 1), (show inR (-1) by decide)⟩, hR⟩)
    · refine c_S hR hw (sK11 hR hw) (by decide) (show srf 11 0 0 = some 1 from rfl) ?_
      refine p_I (s := 2) hR (bS605 ▸ (ce_by hR hw (by decide))) rfl ⟨rfl, rfl, by decide⟩ rfl rv1 (fun g11 n9 hR10 => ?_)
      exact rf_ok (by exact ⟨⟨rfl, rv1⟩, hR10⟩)
noncomputable def N_H_out (v1 : Int) (n : NS) : Option (Int) :=
  if v1 < 0 then
    some (-1)
  else
    if v1 < (n 4 606 2) then
      nn (n 4 606 1) <|
      dx n (n 4 606 1) 1 v1 <|
      some (n 99 (n 4 606 1) v1)
    else
      some (-1)
theorem f_H_out {w y : Prop} {g : g_S} {n : NS} {m : YS} (hw : w) {xv1 : Int32} {v1 : Int} (ev1 : xv1 = Int32.ofInt v1) (rv1 : inR v1) (hR : RC w y g n m) : Rf (fun a b => RI a b) (M_H_out 0 xv1 g) (N_H_out v1 n) := by
  subst ev1
  unfold M_H_out N_H_out
  refine rf_lt rfl (e_n 0) rv1 (show inR 0 by decide) ?_ ?_
  · exact rf_ok (by exact ⟨(e_m 1), (show inR (-1) by decide)⟩)
  · refine c_S hR hw (sK11 hR hw) (by decide) (show srf 11 0 1 = some 3 from rfl) ?_
    refine c_I (s := 2) hR (bS606 ▸ (ce_by hR hw (by decide))) rfl rfl (fun h4 => ?_)
    refine rf_lt rfl rfl rv1 h4 ?_ ?_
    · refine c_S hR hw (sK11 hR hw) (by decide) (show srf 11 0 1 = some 3 from rfl) ?_
      refine c_D (s := 1) hR (bS606 ▸ (ce_by hR hw (by decide))) rfl rfl rfl (fun h7 => ?_)
      refine d_B hR h7 rfl rv1 (fun h8 h9 => ?_)
      exact rf_ok (by exact ⟨rfl, (inB.r h9)⟩)
    · exact rf_ok (by exact ⟨(e_m 1), (show inR (-1) by decide)⟩)
noncomputable def nb_H_wrongByte_2 (v1 : Int) (n : NS) : Option ((Int) ⊕ ((Int) ⊕ (Unit))) :=
  if v1 < (n 4 605 2) then
    nn (n 4 605 1) <|
    dx n (n 4 605 1) 1 v1 <|
    if (n 99 (n 4 605 1) v1) = 10 then
      ck (v1 + 1) <|
      some (.inl (v1 + 1))
    else
      if (n 99 (n 4 605 1) v1) < 32 then
        some (.inr (.inl v1))
      else
        if 126 < (n 99 (n 4 605 1) v1) then
          some (.inr (.inl v1))
        else
          ck (v1 + 1) <|
          some (.inl (v1 + 1))
  else
    some (.inr (.inr ()))
theorem fb_H_wrongByte_2 {w y : Prop} {g : g_S} {n : NS} {m : YS} (hw : w) {xv1 : Int32} {v1 : Int} (ev1 : xv1 = Int32.ofInt v1) (rv1 : inR v1) (hR : RC w y g n m) : Rf (RS (fun a b => RI a b) (RS (fun a b => RI a b) (fun _ _ => True))) (b_H_wrongByte_2 0 xv1 g) (nb_H_wrongByte_2 v1 n) := by
  subst ev1
  unfold b_H_wrongByte_2 nb_H_wrongByte_2
  refine c_S hR hw (sK11 hR hw) (by decide) (show srf 11 0 0 = some 1 from rfl) ?_
  refine c_I (s := 2) hR (bS605 ▸ (ce_by hR hw (by decide))) rfl rfl (fun h2 => ?_)
  refine rf_lt rfl rfl rv1 h2 ?_ ?_
  · refine c_S hR hw (sK11 hR hw) (by decide) (show srf 11 0 0 = some 1 from rfl) ?_
    refine c_D (s := 1) hR (bS605 ▸ (ce_by hR hw (by decide))) rfl rfl rfl (fun h5 => ?_)
    refine d_B hR h5 rfl rv1 (fun h6 h7 => ?_)
    refine rf_eq rfl (e_n 10) (inB.r h7) (show inR 10 by decide) ?_ ?_
    · refine rf_ck (fun h9 => ?_)
      exact rf_ok (by exact ⟨(e_add rfl (e_n 1)), h9⟩)
    · refine rf_lt rfl (e_n 32) (inB.r h7) (show inR 32 by decide) ?_ ?_
      · exact rf_ok (by exact ⟨rfl, rv1⟩)
      · refine rf_lt (e_n 126) rfl (show inR 126 by decide) (inB.r h7) ?_ ?_
        · exact rf_ok (by exact ⟨rfl, rv1⟩)
        · refine rf_ck (fun h12 => ?_)
          exact rf_ok (by exact ⟨(e_add rfl (e_n 1)), h12⟩)
  · exact rf_ok (by exact trivial)
noncomputable def NL_H_wrongByte_2 (v1 : Int) (n : NS) : Option ((Int) ⊕ (Unit)) :=
  it (fun s : Int => nb_H_wrongByte_2 s n) (v1)
theorem fL_H_wrongByte_2 {w y : Prop} {g : g_S} {n : NS} {m : YS} (hw : w) {xv1 : Int32} {v1 : Int} (ev1 : xv1 = Int32.ofInt v1) (rv1 : inR v1) (hR : RC w y g n m) : Rf (RS (fun a b => RI a b) (fun _ _ => True)) (L_H_wrongByte_2 0 xv1 g) (NL_H_wrongByte_2 v1 n) := by
  subst ev1
  unfold L_H_wrongByte_2 NL_H_wrongByte_2
  refine rf_it (I := (fun a b => RI a b)) (fun s t h => ?_) ⟨rfl, rv1⟩
  exact fb_H_wrongByte_2 hw h.1 h.2 hR
theorem NL_H_wrongByte_2_eq (v1 : Int) (n : NS) : NL_H_wrongByte_2 v1 n = itc (nb_H_wrongByte_2 v1 n) (fun s => NL_H_wrongByte_2 s n) := it_eq2 (fun s : Int => nb_H_wrongByte_2 s n) (v1)
noncomputable def N_H_wrongByte (n : NS) : Option (Int) :=
  (NL_H_wrongByte_2 0 n).bind <|
    us (fun z1 =>
    ck ((-1000) - z1) <|
    some ((-1000) - z1))
    (fun _ =>
    some 0)
theorem f_H_wrongByte {w y : Prop} {g : g_S} {n : NS} {m : YS} (hw : w) (hR : RC w y g n m) : Rf (fun a b => RI a b) (M_H_wrongByte 0 g) (N_H_wrongByte n) := by
  unfold M_H_wrongByte N_H_wrongByte
  refine rf_bind (fL_H_wrongByte_2 hw (e_n 0) (show inR 0 by decide) hR) (fun a b h => rf_us h (fun a2 z1 h => ?_) (fun a b h => ?_))
  · obtain ⟨rfl, r3⟩ := (show RI a2 z1 from h)
    refine rf_ck (fun h4 => ?_)
    exact rf_ok (by exact ⟨(e_sub (e_m 1000) rfl), h4⟩)
  · exact rf_ok (by exact ⟨(e_n 0), (show inR 0 by decide)⟩)
noncomputable def nk_Bytes_addAll_66 (v0 : Int) (v1 : Int) (v2 : Int) (v4 : Int) (n : NS) : Option (NS) :=
  nn (n 4 v0 1) <|
  cpg n 1 v1 v2 (n 4 v0 1) (n 4 v0 2) v4 <|
  st (nwA n 99 (n 4 v0 1) (cpf (n 99 v1) (n 99 (n 4 v0 1)) v2 (n 4 v0 2) v4)) fun n4 =>
  ck ((n4 4 v0 2) + v4) <|
  st (nw n4 4 v0 2 ((n4 4 v0 2) + v4)) fun n10 =>
  some n10
theorem fk_Bytes_addAll_66 {w y : Prop} {g : g_S} {n : NS} {m : YS} (hw : w) {xv0 : Nat} {v0 : Int} (ev0 : xv0 = aBy v0) (rv0 : 0 ≤ v0 ∧ v0 ≤ 631) {xv1 : Nat} {v1 : Int} (ev1 : xv1 = Int.toNat v1) (rv1 : 0 ≤ v1 ∧ lc (Int.toNat v1) = (99, v1)) {xv2 : Int32} {v2 : Int} (ev2 : xv2 = Int32.ofInt v2) (rv2 : inR v2) {xv4 : Int32} {v4 : Int} (ev4 : xv4 = Int32.ofInt v4) (rv4 : inR v4) (hR : RC w y g n m) : Rf (fun a b => RC w y a b m) (k_Bytes_addAll_66 xv0 xv1 xv2 xv4 g) (nk_Bytes_addAll_66 v0 v1 v2 v4 n) := by
  subst ev0
  subst ev1
  subst ev2
  subst ev4
  unfold k_Bytes_addAll_66 nk_Bytes_addAll_66
  refine c_D (s := 1) hR (ce_by hR hw rv0) rfl rfl rfl (fun h1 => ?_)
  refine c_I (s := 2) hR (ce_by hR hw rv0) rfl rfl (fun h2 => ?_)
  refine n_cp hR (by decide) rv1 h1 rfl rv2 rfl h2 rfl rv4 (fun g6 n4 hR5 => ?_)
  refine c_I (s := 2) hR5 (ce_by hR5 hw rv0) rfl rfl (fun h7 => ?_)
  refine rf_ck (fun h8 => ?_)
  refine p_I (s := 2) hR5 (ce_by hR5 hw rv0) rfl ⟨rfl, rfl, by decide⟩ (e_add rfl rfl) h8 (fun g12 n10 hR11 => ?_)
  exact rf_ok (by exact hR11)
noncomputable def N_Bytes_addAll (v0 : Int) (v1 : Int) (v2 : Int) (v3 : Int) (n : NS) : Option (NS) :=
  ck (v3 - v2) <|
  ck ((n 4 v0 0) - (n 4 v0 2)) <|
  if 0 < (min (v3 - v2) ((n 4 v0 0) - (n 4 v0 2))) then
    ck ((n 4 v0 2) + (min (v3 - v2) ((n 4 v0 0) - (n 4 v0 2)))) <|
    nn (n 4 v0 1) <|
    ty n (n 4 v0 1) 1 <|
    ck (n 93 0 (n 4 v0 1)) <|
    if (n 93 0 (n 4 v0 1)) < ((n 4 v0 2) + (min (v3 - v2) ((n 4 v0 0) - (n 4 v0 2)))) then
      nn (n 4 v0 1) <|
      nn (n 4 v0 1) <|
      ty n (n 4 v0 1) 1 <|
      ck (n 93 0 (n 4 v0 1)) <|
      ck (2 * (n 93 0 (n 4 v0 1))) <|
      ck ((n 4 v0 2) + (min (v3 - v2) ((n 4 v0 0) - (n 4 v0 2)))) <|
      (N_Arrays_copyOf (n 4 v0 1) (max (2 * (n 93 0 (n 4 v0 1))) ((n 4 v0 2) + (min (v3 - v2) ((n 4 v0 0) - (n 4 v0 2))))) n).bind <| u2 fun z22 n25 =>
      st (nw n25 4 v0 1 z22) fun n29 =>
      nk_Bytes_addAll_66 v0 v1 v2 (min (v3 - v2) ((n 4 v0 0) - (n 4 v0 2))) n29
    else
      nk_Bytes_addAll_66 v0 v1 v2 (min (v3 - v2) ((n 4 v0 0) - (n 4 v0 2))) n
  else
    some n
theorem f_Bytes_addAll {w y : Prop} {g : g_S} {n : NS} {m : YS} (hw : w) {xv0 : Nat} {v0 : Int} (ev0 : xv0 = aBy v0) (rv0 : 0 ≤ v0 ∧ v0 ≤ 631) {xv1 : Nat} {v1 : Int} (ev1 : xv1 = Int.toNat v1) (rv1 : 0 ≤ v1 ∧ lc (Int.toNat v1) = (99, v1)) {xv2 : Int32} {v2 : Int} (ev2 : xv2 = Int32.ofInt v2) (rv2 : inR v2) {xv3 : Int32} {v3 : Int} (ev3 : xv3 = Int32.ofInt v3) (rv3 : inR v3) (hR : RC w y g n m) : Rf (fun a b => RC w y a b m) (M_Bytes_addAll xv0 xv1 xv2 xv3 g) (N_Bytes_addAll v0 v1 v2 v3 n) := by
  subst ev0
  subst ev1
  subst ev2
  subst ev3
  unfold M_Bytes_addAll N_Bytes_addAll
  refine rf_ck (fun h1 => ?_)
  refine c_I (s := 0) hR (ce_by hR hw rv0) rfl rfl (fun h2 => ?_)
  refine c_I (s := 2) hR (ce_by hR hw rv0) rfl rfl (fun h3 => ?_)
  refine rf_ck (fun h4 => ?_)
  refine rf_lt (e_n 0) (e_mn (e_sub rfl rfl) (e_sub rfl rfl) h1 h4) (show inR 0 by decide) (min_r h1 h4) ?_ ?_
  · refine c_I (s := 2) hR (ce_by hR hw rv0) rfl rfl (fun h7 => ?_)
    refine rf_ck (fun h8 => ?_)
    refine c_D (s := 1) hR (ce_by hR hw rv0) rfl rfl rfl (fun h9 => ?_)
    refine d_N (t := 1) hR h9 (by decide) (fun h10 h11 => ?_)
    refine rf_lt rfl (e_add rfl (e_mn (e_sub rfl rfl) (e_sub rfl rfl) h1 h4)) h10 h8 ?_ ?_
    · refine c_D (s := 1) hR (ce_by hR hw rv0) rfl rfl rfl (fun h13 => ?_)
      refine c_D (s := 1) hR (ce_by hR hw rv0) rfl rfl rfl (fun h14 => ?_)
      refine d_N (t := 1) hR h14 (by decide) (fun h15 h16 => ?_)
      refine rf_ck (fun h17 => ?_)
      refine c_I (s := 2) hR (ce_by hR hw rv0) rfl rfl (fun h18 => ?_)
      refine rf_ck (fun h19 => ?_)
      refine rf_c2 (f_Arrays_copyOf rfl h13 (e_mx (e_mul (e_n 2) rfl) (e_add rfl (e_mn (e_sub rfl rfl) (e_sub rfl rfl) h1 h4)) h17 h19) (max_r h17 h19) hR) (fun a24 g27 b h => ?_)
      obtain ⟨z22, n25⟩ := b
      refine rf_v2 ?_
      obtain ⟨rfl, r23⟩ := (show RD a24 z22 from h.1)
      have hR26 : RC w y g27 n25 m := h.2
      refine p_R (s := 1) (a := _) hR26 (ce_by hR26 hw rv0) rfl rfl rfl (rc_d r23) (fun g31 n29 hR30 => ?_)
      exact fk_Bytes_addAll_66 hw rfl rv0 rfl rv1 rfl rv2 (e_mn (e_sub rfl rfl) (e_sub rfl rfl) h1 h4) (min_r h1 h4) hR30
    · exact fk_Bytes_addAll_66 hw rfl rv0 rfl rv1 rfl rv2 (e_mn (e_sub rfl rfl) (e_sub rfl rfl) h1 h4) (min_r h1 h4) hR
  · exact rf_ok (by exact hR)
noncomputable def N_H_showAddress (v1 : Int) (n : NS) : Option (Int × NS) :=
  (N_Bytes_clear 606 n).bind fun n3 =>
  ty n3 v1 101 <|
  nn (n3 99 v1 0) <|
  ty n3 v1 101 <|
  (N_Bytes_addAll 606 (n3 99 v1 0) 0 (n3 99 v1 5) n3).bind fun n14 =>
  some ((n14 4 606 2), n14)
theorem f_H_showAddress {w y : Prop} {g : g_S} {n : NS} {m : YS} (hw : w) {xv1 : Nat} {v1 : Int} (ev1 : xv1 = Int.toNat v1) (rv1 : 0 ≤ v1 ∧ lc (Int.toNat v1) = (99, v1)) (hR : RC w y g n m) : Rf (fun a b => RI a.1 b.1 ∧ RC w y a.2 b.2 m) (M_H_showAddress 0 xv1 g) (N_H_showAddress v1 n) := by
  subst ev1
  unfold M_H_showAddress N_H_showAddress
  refine c_S hR hw (sK11 hR hw) (by decide) (show srf 11 0 1 = some 3 from rfl) ?_
  refine v_c (bS606 ▸ (ce_by hR hw (by decide))).1 ?_
  refine rf_bind (f_Bytes_clear hw bS606.symm (by decide) hR) (fun g5 n3 hR4 => ?_)
  refine c_S hR4 hw (sK11 hR4 hw) (by decide) (show srf 11 0 1 = some 3 from rfl) ?_
  refine rf_ty (t := 101) rv1.1 hR4 (by decide) (fun h8 h9 => ?_)
  refine c_D (s := 0) hR4 (ce_dy hR4 rv1 h9 (by decide)) rfl rfl rfl (fun h7 => ?_)
  refine rf_ty (t := 101) rv1.1 hR4 (by decide) (fun h11 h12 => ?_)
  refine c_I (s := 5) hR4 (ce_dy hR4 rv1 h12 (by decide)) rfl rfl (fun h10 => ?_)
  refine v_c (bS606 ▸ (ce_by hR4 hw (by decide))).1 ?_
  refine rf_bind (f_Bytes_addAll hw bS606.symm (by decide) rfl h7 (e_n 0) (show inR 0 by decide) rfl h10 hR4) (fun g16 n14 hR15 => ?_)
  refine c_S hR15 hw (sK11 hR15 hw) (by decide) (show srf 11 0 1 = some 3 from rfl) ?_
  refine c_I (s := 2) hR15 (bS606 ▸ (ce_by hR15 hw (by decide))) rfl rfl (fun h18 => ?_)
  exact rf_ok (by exact ⟨⟨rfl, h18⟩, hR15⟩)
noncomputable def nk_H_resolve_62 (v1 : Int) (n : NS) : Option (Int × NS) :=
  (N_Bytes_clear 605 n).bind fun n3 =>
  some (v1, n3)
theorem fk_H_resolve_62 {w y : Prop} {g : g_S} {n : NS} {m : YS} (hw : w) {xv1 : Int32} {v1 : Int} (ev1 : xv1 = Int32.ofInt v1) (rv1 : inR v1) (hR : RC w y g n m) : Rf (fun a b => RI a.1 b.1 ∧ RC w y a.2 b.2 m) (k_H_resolve_62 0 xv1 g) (nk_H_resolve_62 v1 n) := by
  subst ev1
  unfold k_H_resolve_62 nk_H_resolve_62
  refine c_S hR hw (sK11 hR hw) (by decide) (show srf 11 0 0 = some 1 from rfl) ?_
  refine v_c (bS605 ▸ (ce_by hR hw (by decide))).1 ?_
  refine rf_bind (f_Bytes_clear hw bS605.symm (by decide) hR) (fun g5 n3 hR4 => ?_)
  exact rf_ok (by exact ⟨⟨rfl, rv1⟩, hR4⟩)
noncomputable def nk_H_resolve_61 (w0 : Int) (n : NS) : Option (Int × NS) :=
  nk_H_resolve_62 w0 n
theorem fk_H_resolve_61 {w y : Prop} {g : g_S} {n : NS} {m : YS} (hw : w) {xw0 : Int32} {w0 : Int} (ew0 : xw0 = Int32.ofInt w0) (rw0 : inR w0) (hR : RC w y g n m) : Rf (fun a b => RI a.1 b.1 ∧ RC w y a.2 b.2 m) (k_H_resolve_61 0 xw0 g) (nk_H_resolve_61 w0 n) := by
  subst ew0
  unfold k_H_resolve_61 nk_H_resolve_61
  exact fk_H_resolve_62 hw rfl rw0 hR
noncomputable def N_H_resolve (n : NS) : Option (Int × NS) :=
  (N_H_wrongByte n).bind fun z2 =>
  if z2 = 0 then
    nn (n 4 605 1) <|
    ty n 1584 101 <|
    (N_Address_read 1584 (n 4 605 1) 0 (n 4 605 2) 1582 n).bind <| u2 fun z17 n20 =>
    if z17 = 0 then
      nk_H_resolve_61 (-1) n20
    else
      (N_H_showAddress 1584 n20).bind <| u2 fun z27 n30 =>
      nk_H_resolve_61 z27 n30
  else
    nk_H_resolve_62 z2 n
theorem f_H_resolve {w y : Prop} {g : g_S} {n : NS} {m : YS} (hw : w) (hR : RC w y g n m) : Rf (fun a b => RI a.1 b.1 ∧ RC w y a.2 b.2 m) (M_H_resolve 0 g) (N_H_resolve n) := by
  unfold M_H_resolve N_H_resolve
  refine v_c (sK11 hR hw).1 ?_
  refine rf_bind (f_H_wrongByte hw hR) (fun a4 z2 h => ?_)
  obtain ⟨rfl, r3⟩ := h
  refine rf_eq rfl (e_n 0) r3 (show inR 0 by decide) ?_ ?_
  · refine c_S hR hw (sK11 hR hw) (by decide) (show srf 11 0 3 = some 1569 from rfl) ?_
    refine c_S hR hw (sK6 hR hw) (by decide) (show srf 6 0 14 = some 1584 from rfl) ?_
    refine c_S hR hw (sK11 hR hw) (by decide) (show srf 11 0 0 = some 1 from rfl) ?_
    refine c_D (s := 1) hR (bS605 ▸ (ce_by hR hw (by decide))) rfl rfl rfl (fun h9 => ?_)
    refine c_S hR hw (sK11 hR hw) (by decide) (show srf 11 0 0 = some 1 from rfl) ?_
    refine c_I (s := 2) hR (bS605 ▸ (ce_by hR hw (by decide))) rfl rfl (fun h11 => ?_)
    refine c_S hR hw (sK11 hR hw) (by decide) (show srf 11 0 3 = some 1569 from rfl) ?_
    refine c_S hR hw (sK6 hR hw) (by decide) (show srf 6 0 13 = some 1582 from rfl) ?_
    refine rf_ty (t := 101) dS1584.1 hR (by decide) (fun h15 h16 => ?_)
    refine v_c2 h15 ?_
    refine rf_c2 (f_Address_read rfl dS1584 rfl h9 (e_n 0) (show inR 0 by decide) rfl h11 rfl dS1582 hR) (fun a19 g22 b h => ?_)
    obtain ⟨z17, n20⟩ := b
    refine rf_v2 ?_
    obtain ⟨rfl, r18⟩ := (show RZ a19 z17 from h.1)
    have hR21 : RC w y g22 n20 m := h.2
    refine rf_eq rfl (e_n 0) (inZ.r r18) (show inR 0 by decide) ?_ ?_
    · exact fk_H_resolve_61 hw (e_m 1) (show inR (-1) by decide) hR21
    · refine c_S hR21 hw (sK11 hR21 hw) (by decide) (show srf 11 0 3 = some 1569 from rfl) ?_
      refine c_S hR21 hw (sK6 hR21 hw) (by decide) (show srf 6 0 14 = some 1584 from rfl) ?_
      refine v_c2 (sK11 hR21 hw).1 ?_
      refine rf_c2 (f_H_showAddress hw rfl dS1584 hR21) (fun a29 g32 b h => ?_)
      obtain ⟨z27, n30⟩ := b
      refine rf_v2 ?_
      obtain ⟨rfl, r28⟩ := (show RI a29 z27 from h.1)
      have hR31 : RC w y g32 n30 m := h.2
      exact fk_H_resolve_61 hw rfl r28 hR31
  · exact fk_H_resolve_62 hw rfl r3 hR
noncomputable def N_Bytes_isBlank (v0 : Int) (n : NS) : Option (Int) :=
  if v0 = 10 then
    some 1
  else
    if v0 = 32 then
      some 1
    else
      some 0
theorem f_Bytes_isBlank {w y : Prop} {g : g_S} {n : NS} {m : YS} {xv0 : Int32} {v0 : Int} (ev0 : xv0 = Int32.ofInt v0) (rv0 : inR v0) (hR : RC w y g n m) : Rf (fun a b => RZ a b) (M_Bytes_isBlank xv0 g) (N_Bytes_isBlank v0 n) := by
  subst ev0
  unfold M_Bytes_isBlank N_Bytes_isBlank
  refine rf_eq rfl (e_n 10) rv0 (show inR 10 by decide) ?_ ?_
  · exact rf_ok (by exact ⟨(e_n 1), (.inr rfl)⟩)
  · refine rf_eq rfl (e_n 32) rv0 (show inR 32 by decide) ?_ ?_
    · exact rf_ok (by exact ⟨(e_n 1), (.inr rfl)⟩)
    · exact rf_ok (by exact ⟨(e_n 0), (.inl rfl)⟩)
noncomputable def nb_Net_fieldEnd_2 (v0 : Int) (v2 : Int) (v3 : Int) (n : NS) : Option ((Int) ⊕ (Int)) :=
  if v3 < v2 then
    dx n v0 1 v3 <|
    (N_Bytes_isBlank (n 99 v0 v3) n).bind fun z5 =>
    if z5 = 0 then
      ck (v3 + 1) <|
      some (.inl (v3 + 1))
    else
      some (.inr v3)
  else
    some (.inr v3)
theorem fb_Net_fieldEnd_2 {w y : Prop} {g : g_S} {n : NS} {m : YS} {xv0 : Nat} {v0 : Int} (ev0 : xv0 = Int.toNat v0) (rv0 : 0 ≤ v0 ∧ lc (Int.toNat v0) = (99, v0)) {xv2 : Int32} {v2 : Int} (ev2 : xv2 = Int32.ofInt v2) (rv2 : inR v2) {xv3 : Int32} {v3 : Int} (ev3 : xv3 = Int32.ofInt v3) (rv3 : inR v3) (hR : RC w y g n m) : Rf (RS (fun a b => RI a b) (fun a b => RI a b)) (b_Net_fieldEnd_2 xv0 xv2 xv3 g) (nb_Net_fieldEnd_2 v0 v2 v3 n) := by
  subst ev0
  subst ev2
  subst ev3
  unfold b_Net_fieldEnd_2 nb_Net_fieldEnd_2
  refine rf_lt rfl rfl rv3 rv2 ?_ ?_
  · refine d_B hR rv0 rfl rv3 (fun h2 h3 => ?_)
    refine rf_bind (f_Bytes_isBlank rfl (inB.r h3) hR) (fun a7 z5 h => ?_)
    obtain ⟨rfl, r6⟩ := h
    refine rf_eq rfl (e_n 0) (inZ.r r6) (show inR 0 by decide) ?_ ?_
    · refine rf_ck (fun h9 => ?_)
      exact rf_ok (by exact ⟨(e_add rfl (e_n 1)), h9⟩)
    · exact rf_ok (by exact ⟨rfl, rv3⟩)
  · exact rf_ok (by exact ⟨rfl, rv3⟩)
noncomputable def NL_Net_fieldEnd_2 (v0 : Int) (v2 : Int) (v3 : Int) (n : NS) : Option (Int) :=
  it (fun s : Int => nb_Net_fieldEnd_2 v0 v2 s n) (v3)
theorem fL_Net_fieldEnd_2 {w y : Prop} {g : g_S} {n : NS} {m : YS} {xv0 : Nat} {v0 : Int} (ev0 : xv0 = Int.toNat v0) (rv0 : 0 ≤ v0 ∧ lc (Int.toNat v0) = (99, v0)) {xv2 : Int32} {v2 : Int} (ev2 : xv2 = Int32.ofInt v2) (rv2 : inR v2) {xv3 : Int32} {v3 : Int} (ev3 : xv3 = Int32.ofInt v3) (rv3 : inR v3) (hR : RC w y g n m) : Rf (fun a b => RI a b) (L_Net_fieldEnd_2 xv0 xv2 xv3 g) (NL_Net_fieldEnd_2 v0 v2 v3 n) := by
  subst ev0
  subst ev2
  subst ev3
  unfold L_Net_fieldEnd_2 NL_Net_fieldEnd_2
  refine rf_it (I := (fun a b => RI a b)) (fun s t h => ?_) ⟨rfl, rv3⟩
  exact fb_Net_fieldEnd_2 rfl rv0 rfl rv2 h.1 h.2 hR
theorem NL_Net_fieldEnd_2_eq (v0 : Int) (v2 : Int) (v3 : Int) (n : NS) : NL_Net_fieldEnd_2 v0 v2 v3 n = itc (nb_Net_fieldEnd_2 v0 v2 v3 n) (fun s => NL_Net_fieldEnd_2 v0 v2 s n) := it_eq2 (fun s : Int => nb_Net_fieldEnd_2 v0 v2 s n) (v3)
noncomputable def N_Net_fieldEnd (v0 : Int) (v1 : Int) (v2 : Int) (n : NS) : Option (Int) :=
  (NL_Net_fieldEnd_2 v0 v2 v1 n).bind <| fun z1 =>
  some z1
theorem f_Net_fieldEnd {w y : Prop} {g : g_S} {n : NS} {m : YS} {xv0 : Nat} {v0 : Int} (ev0 : xv0 = Int.toNat v0) (rv0 : 0 ≤ v0 ∧ lc (Int.toNat v0) = (99, v0)) {xv1 : Int32} {v1 : Int} (ev1 : xv1 = Int32.ofInt v1) (rv1 : inR v1) {xv2 : Int32} {v2 : Int} (ev2 : xv2 = Int32.ofInt v2) (rv2 : inR v2) (hR : RC w y g n m) : Rf (fun a b => RI a b) (M_Net_fieldEnd xv0 xv1 xv2 g) (N_Net_fieldEnd v0 v1 v2 n) := by
  subst ev0
  subst ev1
  subst ev2
  unfold M_Net_fieldEnd N_Net_fieldEnd
  refine rf_bind (fL_Net_fieldEnd_2 rfl rv0 rfl rv2 rfl rv1 hR) (fun a2 z1 h => ?_)
  obtain ⟨rfl, r3⟩ := (show RI a2 z1 from h)
  exact rf_ok (by exact ⟨rfl, r3⟩)
noncomputable def N_Address_hasMark (v0 : Int) (n : NS) : Option (Int) :=
  ty n v0 101 <|
  ty n v0 101 <|
  if (n 99 v0 4) < (n 99 v0 5) then
    some 1
  else
    some 0
theorem f_Address_hasMark {w y : Prop} {g : g_S} {n : NS} {m : YS} {xv0 : Nat} {v0 : Int} (ev0 : xv0 = Int.toNat v0) (rv0 : 0 ≤ v0 ∧ lc (Int.toNat v0) = (99, v0)) (hR : RC w y g n m) : Rf (fun a b => RZ a b) (M_Address_hasMark xv0 g) (N_Address_hasMark v0 n) := by
  subst ev0
  unfold M_Address_hasMark N_Address_hasMark
  refine rf_ty (t := 101) rv0.1 hR (by decide) (fun h2 h3 => ?_)
  refine c_I (s := 5) hR (ce_dy hR rv0 h3 (by decide)) rfl rfl (fun h1 => ?_)
  refine rf_ty (t := 101) rv0.1 hR (by decide) (fun h5 h6 => ?_)
  refine c_I (s := 4) hR (ce_dy hR rv0 h6 (by decide)) rfl rfl (fun h4 => ?_)
  refine rf_lt rfl rfl h4 h1 ?_ ?_
  · exact rf_ok (by exact ⟨(e_n 1), (.inr rfl)⟩)
  · exact rf_ok (by exact ⟨(e_n 0), (.inl rfl)⟩)
noncomputable def N_Bytes_isDigit (v0 : Int) (n : NS) : Option (Int) :=
  if v0 < 48 then
    some 0
  else
    if 57 < v0 then
      some 0
    else
      some 1
theorem f_Bytes_isDigit {w y : Prop} {g : g_S} {n : NS} {m : YS} {xv0 : Int32} {v0 : Int} (ev0 : xv0 = Int32.ofInt v0) (rv0 : inR v0) (hR : RC w y g n m) : Rf (fun a b => RZ a b) (M_Bytes_isDigit xv0 g) (N_Bytes_isDigit v0 n) := by
  subst ev0
  unfold M_Bytes_isDigit N_Bytes_isDigit
  refine rf_lt rfl (e_n 48) rv0 (show inR 48 by decide) ?_ ?_
  · exact rf_ok (by exact ⟨(e_n 0), (.inl rfl)⟩)
  · refine rf_lt (e_n 57) rfl (show inR 57 by decide) rv0 ?_ ?_
    · exact rf_ok (by exact ⟨(e_n 0), (.inl rfl)⟩)
    · exact rf_ok (by exact ⟨(e_n 1), (.inr rfl)⟩)
noncomputable def nb_Bytes_number_21 (v0 : Int) (v2 : Int) (v3 : Int) (v4 : Int) (n : NS) : Option ((Int × Int) ⊕ ((Unit) ⊕ (Int))) :=
  if v4 < v2 then
    dx n v0 1 v4 <|
    (N_Bytes_isDigit (n 99 v0 v4) n).bind fun z5 =>
    if z5 = 0 then
      some (.inr (.inl ()))
    else
      ck (v3 * 10) <|
      dx n v0 1 v4 <|
      ck ((v3 * 10) + (n 99 v0 v4)) <|
      ck (((v3 * 10) + (n 99 v0 v4)) - 48) <|
      ck (v4 + 1) <|
      some (.inl (((v3 * 10) + (n 99 v0 v4)) - 48, v4 + 1))
  else
    some (.inr (.inr v3))
theorem fb_Bytes_number_21 {w y : Prop} {g : g_S} {n : NS} {m : YS} {xv0 : Nat} {v0 : Int} (ev0 : xv0 = Int.toNat v0) (rv0 : 0 ≤ v0 ∧ lc (Int.toNat v0) = (99, v0)) {xv2 : Int32} {v2 : Int} (ev2 : xv2 = Int32.ofInt v2) (rv2 : inR v2) {xv3 : Int32} {v3 : Int} (ev3 : xv3 = Int32.ofInt v3) (rv3 : inR v3) {xv4 : Int32} {v4 : Int} (ev4 : xv4 = Int32.ofInt v4) (rv4 : inR v4) (hR : RC w y g n m) : Rf (RS (fun a b => RI a.1 b.1 ∧ RI a.2 b.2) (RS (fun _ _ => True) (fun a b => RI a b))) (b_Bytes_number_21 xv0 xv2 xv3 xv4 g) (nb_Bytes_number_21 v0 v2 v3 v4 n) := by
  subst ev0
  subst ev2
  subst ev3
  subst ev4
  unfold b_Bytes_number_21 nb_Bytes_number_21
  refine rf_lt rfl rfl rv4 rv2 ?_ ?_
  · refine d_B hR rv0 rfl rv4 (fun h2 h3 => ?_)
    refine rf_bind (f_Bytes_isDigit rfl (inB.r h3) hR) (fun a7 z5 h => ?_)
    obtain ⟨rfl, r6⟩ := h
    refine rf_eq rfl (e_n 0) (inZ.r r6) (show inR 0 by decide) ?_ ?_
    · exact rf_ok (by exact trivial)
    · refine rf_ck (fun h9 => ?_)
      refine d_B hR rv0 rfl rv4 (fun h10 h11 => ?_)
      refine rf_ck (fun h12 => ?_)
      refine rf_ck (fun h13 => ?_)
      refine rf_ck (fun h14 => ?_)
      exact rf_ok (by exact ⟨⟨(e_sub (e_add (e_mul rfl (e_n 10)) rfl) (e_n 48)), h13⟩, ⟨(e_add rfl (e_n 1)), h14⟩⟩)
  · exact rf_ok (by exact ⟨rfl, rv3⟩)
noncomputable def NL_Bytes_number_21 (v0 : Int) (v2 : Int) (v3 : Int) (v4 : Int) (n : NS) : Option ((Unit) ⊕ (Int)) :=
  it (fun s : Int × Int => nb_Bytes_number_21 v0 v2 s.1 s.2 n) (v3, v4)
theorem fL_Bytes_number_21 {w y : Prop} {g : g_S} {n : NS} {m : YS} {xv0 : Nat} {v0 : Int} (ev0 : xv0 = Int.toNat v0) (rv0 : 0 ≤ v0 ∧ lc (Int.toNat v0) = (99, v0)) {xv2 : Int32} {v2 : Int} (ev2 : xv2 = Int32.ofInt v2) (rv2 : inR v2) {xv3 : Int32} {v3 : Int} (ev3 : xv3 = Int32.ofInt v3) (rv3 : inR v3) {xv4 : Int32} {v4 : Int} (ev4 : xv4 = Int32.ofInt v4) (rv4 : inR v4) (hR : RC w y g n m) : Rf (RS (fun _ _ => True) (fun a b => RI a b)) (L_Bytes_number_21 xv0 xv2 xv3 xv4 g) (NL_Bytes_number_21 v0 v2 v3 v4 n) := by
  subst ev0
  subst ev2
  subst ev3
  subst ev4
  unfold L_Bytes_number_21 NL_Bytes_number_21
  refine rf_it (I := (fun a b => RI a.1 b.1 ∧ RI a.2 b.2)) (fun s t h => ?_) ⟨⟨rfl, rv3⟩, ⟨rfl, rv4⟩⟩
  exact fb_Bytes_number_21 rfl rv0 rfl rv2 h.1.1 h.1.2 h.2.1 h.2.2 hR
theorem NL_Bytes_number_21_eq (v0 : Int) (v2 : Int) (v3 : Int) (v4 : Int) (n : NS) : NL_Bytes_number_21 v0 v2 v3 v4 n = itc (nb_Bytes_number_21 v0 v2 v3 v4 n) (fun s => NL_Bytes_number_21 v0 v2 s.1 s.2 n) := it_eq2 (fun s : Int × Int => nb_Bytes_number_21 v0 v2 s.1 s.2 n) (v3, v4)
noncomputable def N_Bytes_number (v0 : Int) (v1 : Int) (v2 : Int) (n : NS) : Option (Int) :=
  ck (v2 - v1) <|
  if (v2 - v1) < 1 then
    some (-1)
  else
    ck (v2 - v1) <|
    if 4 < (v2 - v1) then
      some (-1)
    else
      (NL_Bytes_number_21 v0 v2 0 v1 n).bind <|
        us (fun _ =>
        some (-1))
        (fun z8 =>
        some z8)
theorem f_Bytes_number {w y : Prop} {g : g_S} {n : NS} {m : YS} {xv0 : Nat} {v0 : Int} (ev0 : xv0 = Int.toNat v0) (rv0 : 0 ≤ v0 ∧ lc (Int.toNat v0) = (99, v0)) {xv1 : Int32} {v1 : Int} (ev1 : xv1 = Int32.ofInt v1) (rv1 : inR v1) {xv2 : Int32} {v2 : Int} (ev2 : xv2 = Int32.ofInt v2) (rv2 : inR v2) (hR : RC w y g n m) : Rf (fun a b => RI a b) (M_Bytes_number xv0 xv1 xv2 g) (N_Bytes_number v0 v1 v2 n) := by
  subst ev0
  subst ev1
  subst ev2
  unfold M_Bytes_number N_Bytes_number
  refine rf_ck (fun h1 => ?_)
  refine rf_lt (e_sub rfl rfl) (e_n 1) h1 (show inR 1 by decide) ?_ ?_
  · exact rf_ok (by exact ⟨(e_m 1), (show inR (-1) by decide)⟩)
  · refine rf_ck (fun h4 => ?_)
    refine rf_lt (e_n 4) (e_sub rfl rfl) (show inR 4 by decide) h4 ?_ ?_
    · exact rf_ok (by exact ⟨(e_m 1), (show inR (-1) by decide)⟩)
    · refine rf_bind (fL_Bytes_number_21 rfl rv0 rfl rv2 (e_n 0) (show inR 0 by decide) rfl rv1 hR) (fun a b h => rf_us h (fun a b h => ?_) (fun a9 z8 h => ?_))
      · exact rf_ok (by exact ⟨(e_m 1), (show inR (-1) by decide)⟩)
      · obtain ⟨rfl, r10⟩ := (show RI a9 z8 from h)
        exact rf_ok (by exact ⟨rfl, r10⟩)
noncomputable def N_Answer_readCookie (v0 : Int) (v1 : Int) (v2 : Int) (v3 : Int) (n : NS) : Option (Int × NS) :=
  (N_Bytes_nameEnd v1 v2 v3 n).bind fun z2 =>
  if z2 = v2 then
    some (0, n)
  else
    if z2 = v3 then
      some (0, n)
    else
      dx n v1 1 z2 <|
      if (n 99 v1 z2) = 58 then
        ck (z2 + 1) <|
        (N_Bytes_isName v1 (z2 + 1) v3 n).bind fun z14 =>
        if z14 = 0 then
          some (0, n)
        else
          (N_Bytes_pack v1 v2 z2 n).bind fun z20 =>
          ty n v0 102 <|
          st (nw n 99 v0 2 z20) fun n26 =>
          ck (z2 + 1) <|
          (N_Bytes_pack v1 (z2 + 1) v3 n26).bind fun z31 =>
          ty n26 v0 102 <|
          st (nw n26 99 v0 3 z31) fun n37 =>
          some (1, n37)
      else
        some (0, n)
theorem f_Answer_readCookie {w y : Prop} {g : g_S} {n : NS} {m : YS} {xv0 : Nat} {v0 : Int} (ev0 : xv0 = Int.toNat v0) (rv0 : 0 ≤ v0 ∧ lc (Int.toNat v0) = (99, v0)) {xv1 : Nat} {v1 : Int} (ev1 : xv1 = Int.toNat v1) (rv1 : 0 ≤ v1 ∧ lc (Int.toNat v1) = (99, v1)) {xv2 : Int32} {v2 : Int} (ev2 : xv2 = Int32.ofInt v2) (rv2 : inR v2) {xv3 : Int32} {v3 : Int} (ev3 : xv3 = Int32.ofInt v3) (rv3 : inR v3) (hR : RC w y g n m) : Rf (fun a b => RZ a.1 b.1 ∧ RC w y a.2 b.2 m) (M_Answer_readCookie xv0 xv1 xv2 xv3 g) (N_Answer_readCookie v0 v1 v2 v3 n) := by
  subst ev0
  subst ev1
  subst ev2
  subst ev3
  unfold M_Answer_readCookie N_Answer_readCookie
  refine rf_bind (f_Bytes_nameEnd rfl rv1 rfl rv2 rfl rv3 hR) (fun a4 z2 h => ?_)
  obtain ⟨rfl, r3⟩ := h
  refine rf_eq rfl rfl r3 rv2 ?_ ?_
  · exact rf_ok (by exact ⟨⟨(e_n 0), (.inl rfl)⟩, hR⟩)
  · refine rf_eq rfl rfl r3 rv3 ?_ ?_
    · exact rf_ok (by exact ⟨⟨(e_n 0), (.inl rfl)⟩, hR⟩)
    · refine d_B hR rv1 rfl r3 (fun h9 h10 => ?_)
      refine rf_eq rfl (e_n 58) (inB.r h10) (show inR 58 by decide) ?_ ?_
      · refine rf_ck (fun h12 => ?_)
        refine rf_bind (f_Bytes_isName rfl rv1 (e_add rfl (e_n 1)) h12 rfl rv3 hR) (fun a16 z14 h => ?_)
        obtain ⟨rfl, r15⟩ := h
        refine rf_eq rfl (e_n 0) (inZ.r r15) (show inR 0 by decide) ?_ ?_
        · exact rf_ok (by exact ⟨⟨(e_n 0), (.inl rfl)⟩, hR⟩)
        · refine rf_bind (f_Bytes_pack rfl rv1 rfl rv2 rfl r3 hR) (fun a22 z20 h => ?_)
          obtain ⟨rfl, r21⟩ := h
          refine rf_ty (t := 102) rv0.1 hR (by decide) (fun h24 h25 => ?_)
          refine p_L (s := 2) hR (ce_dy hR rv0 h25 (by decide)) rfl rfl rfl r21 (fun g28 n26 hR27 => ?_)
          refine rf_ck (fun h29 => ?_)
          refine rf_bind (f_Bytes_pack rfl rv1 (e_add rfl (e_n 1)) h29 rfl rv3 hR27) (fun a33 z31 h => ?_)
          obtain ⟨rfl, r32⟩ := h
          refine rf_ty (t := 102) rv0.1 hR27 (by decide) (fun h35 h36 => ?_)
          refine p_L (s := 3) hR27 (ce_dy hR27 rv0 h36 (by decide)) rfl rfl rfl r32 (fun g39 n37 hR38 => ?_)
          exact rf_ok (by exact ⟨⟨(e_n 1), (.inr rfl)⟩, hR38⟩)
      · exact rf_ok (by exact ⟨⟨(e_n 0), (.inl rfl)⟩, hR⟩)
noncomputable def nk_Answer_readField_122 (v0 : Int) (v1 : Int) (v2 : Int) (v3 : Int) (n : NS) : Option (Int × NS) :=
  (N_Bytes_stands 1000009 v1 v2 v3 n).bind fun z3 =>
  if z3 = 0 then
    some (0, n)
  else
    ck (v3 - v2) <|
    if (v3 - v2) = 4 then
      ty n v0 102 <|
      if (n 99 v0 5) = 0 then
        ty n v0 102 <|
        st (nw n 99 v0 5 1) fun n17 =>
        some (1, n17)
      else
        some (0, n)
    else
      some (0, n)
theorem fk_Answer_readField_122 {w y : Prop} {g : g_S} {n : NS} {m : YS} {xv0 : Nat} {v0 : Int} (ev0 : xv0 = Int.toNat v0) (rv0 : 0 ≤ v0 ∧ lc (Int.toNat v0) = (99, v0)) {xv1 : Nat} {v1 : Int} (ev1 : xv1 = Int.toNat v1) (rv1 : 0 ≤ v1 ∧ lc (Int.toNat v1) = (99, v1)) {xv2 : Int32} {v2 : Int} (ev2 : xv2 = Int32.ofInt v2) (rv2 : inR v2) {xv3 : Int32} {v3 : Int} (ev3 : xv3 = Int32.ofInt v3) (rv3 : inR v3) (hR : RC w y g n m) : Rf (fun a b => RZ a.1 b.1 ∧ RC w y a.2 b.2 m) (k_Answer_readField_122 xv0 xv1 xv2 xv3 g) (nk_Answer_readField_122 v0 v1 v2 v3 n) := by
  subst ev0
  subst ev1
  subst ev2
  subst ev3
  unfold k_Answer_readField_122 nk_Answer_readField_122
  refine rf_bind (f_Bytes_stands rfl rv1 rfl rv2 rfl rv3 hR) (fun a5 z3 h => ?_)
  obtain ⟨rfl, r4⟩ := h
  refine rf_eq rfl (e_n 0) (inZ.r r4) (show inR 0 by decide) ?_ ?_
  · exact rf_ok (by exact ⟨⟨(e_n 0), (.inl rfl)⟩, hR⟩)
  · refine rf_ck (fun h8 => ?_)
    refine rf_eq (e_sub rfl rfl) (e_n 4) h8 (show inR 4 by decide) ?_ ?_
    · refine rf_ty (t := 102) rv0.1 hR (by decide) (fun h11 h12 => ?_)
      refine c_Z (s := 5) hR (ce_dy hR rv0 h12 (by decide)) rfl rfl rfl (fun h10 => ?_)
      refine rf_eq rfl (e_n 0) (inZ.r h10) (show inR 0 by decide) ?_ ?_
      · refine rf_ty (t := 102) rv0.1 hR (by decide) (fun h15 h16 => ?_)
        refine p_Z (s := 5) hR (ce_dy hR rv0 h16 (by decide)) rfl ⟨rfl, by decide⟩ (e_n 1) (.inr rfl) (fun g19 n17 hR18 => ?_)
        exact rf_ok (by exact ⟨⟨(e_n 1), (.inr rfl)⟩, hR18⟩)
      · exact rf_ok (by exact ⟨⟨(e_n 0), (.inl rfl)⟩, hR⟩)
    · exact rf_ok (by exact ⟨⟨(e_n 0), (.inl rfl)⟩, hR⟩)
noncomputable def nk_Answer_readField_76 (v0 : Int) (v1 : Int) (v2 : Int) (v3 : Int) (n : NS) : Option (Int × NS) :=
  (N_Bytes_stands 1000008 v1 v2 v3 n).bind fun z3 =>
  if z3 = 0 then
    nk_Answer_readField_122 v0 v1 v2 v3 n
  else
    ty n v0 102 <|
    if (n 99 v0 4) < 0 then
      al1 n <|
      st (nnew n 101 0 8) fun n14 =>
      (N_Address_init (n 90 0 0) n14).bind fun n20 =>
      ty n20 v0 102 <|
      st (nw n20 99 v0 4 (n 90 0 0)) fun n26 =>
      ty n26 v0 102 <|
      if (n26 99 v0 4) < 0 then
        ck (v2 + 3) <|
        ty n26 v0 102 <|
        nn (n26 99 v0 0) <|
        none
      else
        ck (v2 + 3) <|
        ty n26 v0 102 <|
        nn (n26 99 v0 0) <|
        ty n26 (n26 99 v0 4) 101 <|
        (N_Address_read (n26 99 v0 4) v1 (v2 + 3) v3 (n26 99 v0 0) n26).bind <| u2 fun z40 n43 =>
        some (z40, n43)
    else
      nk_Answer_readField_122 v0 v1 v2 v3 n
theorem fk_Answer_readField_76 {w y : Prop} {g : g_S} {n : NS} {m : YS} {xv0 : Nat} {v0 : Int} (ev0 : xv0 = Int.toNat v0) (rv0 : 0 ≤ v0 ∧ lc (Int.toNat v0) = (99, v0)) {xv1 : Nat} {v1 : Int} (ev1 : xv1 = Int.toNat v1) (rv1 : 0 ≤ v1 ∧ lc (Int.toNat v1) = (99, v1)) {xv2 : Int32} {v2 : Int} (ev2 : xv2 = Int32.ofInt v2) (rv2 : inR v2) {xv3 : Int32} {v3 : Int} (ev3 : xv3 = Int32.ofInt v3) (rv3 : inR v3) (hR : RC w y g n m) : Rf (fun a b => RZ a.1 b.1 ∧ RC w y a.2 b.2 m) (k_Answer_readField_76 xv0 xv1 xv2 xv3 g) (nk_Answer_readField_76 v0 v1 v2 v3 n) := by
  subst ev0
  subst ev1
  subst ev2
  subst ev3
  unfold k_Answer_readField_76 nk_Answer_readField_76
  refine rf_bind (f_Bytes_stands rfl rv1 rfl rv2 rfl rv3 hR) (fun a5 z3 h => ?_)
  obtain ⟨rfl, r4⟩ := h
  refine rf_eq rfl (e_n 0) (inZ.r r4) (show inR 0 by decide) ?_ ?_
  · exact fk_Answer_readField_122 rfl rv0 rfl rv1 rfl rv2 rfl rv3 hR
  · refine rf_ty (t := 102) rv0.1 hR (by decide) (fun h8 h9 => ?_)
    refine c_O (s := 4) hR (ce_dy hR rv0 h9 (by decide)) rfl rfl rfl (fun h7 => ?_)
    refine rf_ro (fun h10 => ?_) (fun h10 => ?_)
    · exact fk_Answer_readField_122 rfl rv0 rfl rv1 rfl rv2 rfl rv3 hR
    · refine n_O hR (by decide) rfl (fun h17 g16 n14 hR15 h18 => ?_)
      refine rf_bind (f_Address_init rfl h17 hR15) (fun g22 n20 hR21 => ?_)
      refine rf_ty (t := 102) rv0.1 hR21 (by decide) (fun h24 h25 => ?_)
      refine p_R (s := 4) (a := _) hR21 (ce_dy hR21 rv0 h25 (by decide)) rfl rfl rfl (rc_d h17) (fun g28 n26 hR27 => ?_)
      refine rf_ty (t := 102) rv0.1 hR27 (by decide) (fun h30 h31 => ?_)
      refine c_O (s := 4) hR27 (ce_dy hR27 rv0 h31 (by decide)) rfl rfl rfl (fun h29 => ?_)
      refine rf_ro (fun h32 => ?_) (fun h32 => ?_)
      · refine rf_ck (fun h33 => ?_)
        refine rf_ty (t := 102) rv0.1 hR27 (by decide) (fun h35 h36 => ?_)
        refine c_D (s := 0) hR27 (ce_dy hR27 rv0 h36 (by decide)) rfl rfl rfl (fun h34 => ?_)
        refine rf_ty (t := 101) (And.intro h32 (h29 h32)).1 hR27 (by decide) (fun h38 h39 => ?_)
        refine v_c2 h38 ?_
        refine rf_c2 (f_Address_read rfl (And.intro h32 (h29 h32)) rfl rv1 (e_add rfl (e_n 3)) h33 rfl rv3 rfl h34 hR27) (fun a42 g45 b h => ?_)
        obtain ⟨z40, n43⟩ := b
        refine rf_v2 ?_
        obtain ⟨rfl, r41⟩ := (show RZ a42 z40 from h.1)
        have hR44 : RC w y g45 n43 m := h.2
        refine rf_tz rfl r41 ?_
        exact rf_ok (by exact ⟨⟨rfl, r41⟩, hR44⟩)
      · refine rf_ck (fun h47 => ?_)
        refine rf_ty (t := 102) rv0.1 hR27 (by decide) (fun h49 h50 => ?_)
        refine c_D (s := 0) hR27 (ce_dy hR27 rv0 h50 (by decide)) rfl rfl rfl (fun h48 => ?_)
        exact rf_no
noncomputable def nk_Answer_readField_45 (v0 : Int) (v1 : Int) (v2 : Int) (v3 : Int) (n : NS) : Option (Int × NS) :=
  (N_Bytes_stands 1000007 v1 v2 v3 n).bind fun z3 =>
  if z3 = 0 then
    nk_Answer_readField_76 v0 v1 v2 v3 n
  else
    ty n v0 102 <|
    if (n 99 v0 2) = 0 then
      ck (v2 + 7) <|
      ty n v0 102 <|
      (N_Answer_readCookie v0 v1 (v2 + 7) v3 n).bind <| u2 fun z15 n18 =>
      some (z15, n18)
    else
      nk_Answer_readField_76 v0 v1 v2 v3 n
theorem fk_Answer_readField_45 {w y : Prop} {g : g_S} {n : NS} {m : YS} {xv0 : Nat} {v0 : Int} (ev0 : xv0 = Int.toNat v0) (rv0 : 0 ≤ v0 ∧ lc (Int.toNat v0) = (99, v0)) {xv1 : Nat} {v1 : Int} (ev1 : xv1 = Int.toNat v1) (rv1 : 0 ≤ v1 ∧ lc (Int.toNat v1) = (99, v1)) {xv2 : Int32} {v2 : Int} (ev2 : xv2 = Int32.ofInt v2) (rv2 : inR v2) {xv3 : Int32} {v3 : Int} (ev3 : xv3 = Int32.ofInt v3) (rv3 : inR v3) (hR : RC w y g n m) : Rf (fun a b => RZ a.1 b.1 ∧ RC w y a.2 b.2 m) (k_Answer_readField_45 xv0 xv1 xv2 xv3 g) (nk_Answer_readField_45 v0 v1 v2 v3 n) := by
  subst ev0
  subst ev1
  subst ev2
  subst ev3
  unfold k_Answer_readField_45 nk_Answer_readField_45
  refine rf_bind (f_Bytes_stands rfl rv1 rfl rv2 rfl rv3 hR) (fun a5 z3 h => ?_)
  obtain ⟨rfl, r4⟩ := h
  refine rf_eq rfl (e_n 0) (inZ.r r4) (show inR 0 by decide) ?_ ?_
  · exact fk_Answer_readField_76 rfl rv0 rfl rv1 rfl rv2 rfl rv3 hR
  · refine rf_ty (t := 102) rv0.1 hR (by decide) (fun h8 h9 => ?_)
    refine c_L (s := 2) hR (ce_dy hR rv0 h9 (by decide)) rfl rfl (fun h7 => ?_)
    refine rf_leq rfl (f_n 0) h7 (show inL 0 by decide) ?_ ?_
    · refine rf_ck (fun h11 => ?_)
      refine rf_ty (t := 102) rv0.1 hR (by decide) (fun h13 h14 => ?_)
      refine v_c2 h13 ?_
      refine rf_c2 (f_Answer_readCookie rfl rv0 rfl rv1 (e_add rfl (e_n 7)) h11 rfl rv3 hR) (fun a17 g20 b h => ?_)
      obtain ⟨z15, n18⟩ := b
      refine rf_v2 ?_
      obtain ⟨rfl, r16⟩ := (show RZ a17 z15 from h.1)
      have hR19 : RC w y g20 n18 m := h.2
      refine rf_tz rfl r16 ?_
      exact rf_ok (by exact ⟨⟨rfl, r16⟩, hR19⟩)
    · exact fk_Answer_readField_76 rfl rv0 rfl rv1 rfl rv2 rfl rv3 hR
noncomputable def N_Answer_readField (v0 : Int) (v1 : Int) (v2 : Int) (v3 : Int) (n : NS) : Option (Int × NS) :=
  (N_Bytes_stands 1000006 v1 v2 v3 n).bind fun z3 =>
  if z3 = 0 then
    nk_Answer_readField_45 v0 v1 v2 v3 n
  else
    ty n v0 102 <|
    if (n 99 v0 1) = (-1) then
      ck (v2 + 4) <|
      (N_Bytes_number v1 (v2 + 4) v3 n).bind fun z13 =>
      ty n v0 102 <|
      st (nw n 99 v0 1 z13) fun n19 =>
      ty n19 v0 102 <|
      if (n19 99 v0 1) = (-1) then
        some (0, n19)
      else
        some (1, n19)
    else
      nk_Answer_readField_45 v0 v1 v2 v3 n
theorem f_Answer_readField {w y : Prop} {g : g_S} {n : NS} {m : YS} {xv0 : Nat} {v0 : Int} (ev0 : xv0 = Int.toNat v0) (rv0 : 0 ≤ v0 ∧ lc (Int.toNat v0) = (99, v0)) {xv1 : Nat} {v1 : Int} (ev1 : xv1 = Int.toNat v1) (rv1 : 0 ≤ v1 ∧ lc (Int.toNat v1) = (99, v1)) {xv2 : Int32} {v2 : Int} (ev2 : xv2 = Int32.ofInt v2) (rv2 : inR v2) {xv3 : Int32} {v3 : Int} (ev3 : xv3 = Int32.ofInt v3) (rv3 : inR v3) (hR : RC w y g n m) : Rf (fun a b => RZ a.1 b.1 ∧ RC w y a.2 b.2 m) (M_Answer_readField xv0 xv1 xv2 xv3 g) (N_Answer_readField v0 v1 v2 v3 n) := by
  subst ev0
  subst ev1
  subst ev2
  subst ev3
  unfold M_Answer_readField N_Answer_readField
  refine rf_bind (f_Bytes_stands rfl rv1 rfl rv2 rfl rv3 hR) (fun a5 z3 h => ?_)
  obtain ⟨rfl, r4⟩ := h
  refine rf_eq rfl (e_n 0) (inZ.r r4) (show inR 0 by decide) ?_ ?_
  · exact fk_Answer_readField_45 rfl rv0 rfl rv1 rfl rv2 rfl rv3 hR
  · refine rf_ty (t := 102) rv0.1 hR (by decide) (fun h8 h9 => ?_)
    refine c_I (s := 1) hR (ce_dy hR rv0 h9 (by decide)) rfl rfl (fun h7 => ?_)
    refine rf_eq rfl (e_m 1) h7 (show inR (-1) by decide) ?_ ?_
    · refine rf_ck (fun h11 => ?_)
      refine rf_bind (f_Bytes_number rfl rv1 (e_add rfl (e_n 4)) h11 rfl rv3 hR) (fun a15 z13 h => ?_)
      obtain ⟨rfl, r14⟩ := h
      refine rf_ty (t := 102) rv0.1 hR (by decide) (fun h17 h18 => ?_)
      refine p_I (s := 1) hR (ce_dy hR rv0 h18 (by decide)) rfl ⟨rfl, rfl, by decide⟩ rfl r14 (fun g21 n19 hR20 => ?_)
      refine rf_ty (t := 102) rv0.1 hR20 (by decide) (fun h23 h24 => ?_)
      refine c_I (s := 1) hR20 (ce_dy hR20 rv0 h24 (by decide)) rfl rfl (fun h22 => ?_)
      refine rf_eq rfl (e_m 1) h22 (show inR (-1) by decide) ?_ ?_
      · exact rf_ok (by exact ⟨⟨(e_n 0), (.inl rfl)⟩, hR20⟩)
      · exact rf_ok (by exact ⟨⟨(e_n 1), (.inr rfl)⟩, hR20⟩)
    · exact fk_Answer_readField_45 rfl rv0 rfl rv1 rfl rv2 rfl rv3 hR
noncomputable def N_Arrays_checkLength (v0 : Int) (v1 : Int) (n : NS) : Option (NS) :=
  if v1 < v0 then
    none
  else
    some n
theorem f_Arrays_checkLength {w y : Prop} {g : g_S} {n : NS} {m : YS} {xv0 : Int32} {v0 : Int} (ev0 : xv0 = Int32.ofInt v0) (rv0 : inR v0) {xv1 : Int32} {v1 : Int} (ev1 : xv1 = Int32.ofInt v1) (rv1 : inR v1) (hR : RC w y g n m) : Rf (fun a b => RC w y a b m) (M_Arrays_checkLength xv0 xv1 g) (N_Arrays_checkLength v0 v1 n) := by
  subst ev0
  subst ev1
  unfold M_Arrays_checkLength N_Arrays_checkLength
  refine rf_lt rfl rfl rv1 rv0 ?_ ?_
  · exact rf_no
  · exact rf_ok (by exact hR)
noncomputable def N_Arrays_copyOfRangeByte (v0 : Int) (v1 : Int) (v2 : Int) (n : NS) : Option (Int × NS) :=
  (N_Arrays_checkLength v1 v2 n).bind fun n2 =>
  ck (v2 - v1) <|
  al2 n2 (v2 - v1) <|
  st (nnew n2 1 (v2 - v1) (v2 - v1)) fun n7 =>
  ty n7 v0 1 <|
  ck (n7 93 0 v0) <|
  ck ((n7 93 0 v0) - v1) <|
  cpg n7 1 v0 v1 (n2 90 0 0) 0 (min ((n7 93 0 v0) - v1) (v2 - v1)) <|
  st (nwA n7 99 (n2 90 0 0) (cpf (n7 99 v0) (n7 99 (n2 90 0 0)) v1 0 (min ((n7 93 0 v0) - v1) (v2 - v1)))) fun n17 =>
  some ((n2 90 0 0), n17)
theorem f_Arrays_copyOfRangeByte {w y : Prop} {g : g_S} {n : NS} {m : YS} {xv0 : Nat} {v0 : Int} (ev0 : xv0 = Int.toNat v0) (rv0 : 0 ≤ v0 ∧ lc (Int.toNat v0) = (99, v0)) {xv1 : Int32} {v1 : Int} (ev1 : xv1 = Int32.ofInt v1) (rv1 : inR v1) {xv2 : Int32} {v2 : Int} (ev2 : xv2 = Int32.ofInt v2) (rv2 : inR v2) (hR : RC w y g n m) : Rf (fun a b => RD a.1 b.1 ∧ RC w y a.2 b.2 m) (M_Arrays_copyOfRangeByte xv0 xv1 xv2 g) (N_Arrays_copyOfRangeByte v0 v1 v2 n) := by
  subst ev0
  subst ev1
  subst ev2
  unfold M_Arrays_copyOfRangeByte N_Arrays_copyOfRangeByte
  refine rf_bind (f_Arrays_checkLength rfl rv1 rfl rv2 hR) (fun g4 n2 hR3 => ?_)
  refine rf_ck (fun h5 => ?_)
  refine n_A hR3 (by decide) (e_sub rfl rfl) h5 (fun h10 g9 n7 hR8 h11 => ?_)
  refine d_N (t := 1) hR8 rv0 (by decide) (fun h12 h13 => ?_)
  refine rf_ck (fun h14 => ?_)
  refine n_cp hR8 (by decide) rv0 h10 rfl rv1 (e_n 0) (show inR 0 by decide) (e_mn (e_sub rfl rfl) (e_sub rfl rfl) h14 h5) (min_r h14 h5) (fun g19 n17 hR18 => ?_)
  exact rf_ok (by exact ⟨⟨rfl, h10⟩, hR18⟩)
noncomputable def nk_Arrays_copyOfRange_10 (v0 : Int) (v1 : Int) (v2 : Int) (n : NS) : Option (Int × NS) :=
  (N_Arrays_copyOfRangeByte v0 v1 v2 n).bind <| u2 fun z2 n5 =>
  some (z2, n5)
theorem fk_Arrays_copyOfRange_10 {w y : Prop} {g : g_S} {n : NS} {m : YS} {xv0 : Nat} {v0 : Int} (ev0 : xv0 = Int.toNat v0) (rv0 : 0 ≤ v0 ∧ lc (Int.toNat v0) = (99, v0)) {xv1 : Int32} {v1 : Int} (ev1 : xv1 = Int32.ofInt v1) (rv1 : inR v1) {xv2 : Int32} {v2 : Int} (ev2 : xv2 = Int32.ofInt v2) (rv2 : inR v2) (hR : RC w y g n m) : Rf (fun a b => RD a.1 b.1 ∧ RC w y a.2 b.2 m) (k_Arrays_copyOfRange_10 xv0 xv1 xv2 g) (nk_Arrays_copyOfRange_10 v0 v1 v2 n) := by
  subst ev0
  subst ev1
  subst ev2
  unfold k_Arrays_copyOfRange_10 nk_Arrays_copyOfRange_10
  refine rf_c2 (f_Arrays_copyOfRangeByte rfl rv0 rfl rv1 rfl rv2 hR) (fun a4 g7 b h => ?_)
  obtain ⟨z2, n5⟩ := b
  refine rf_v2 ?_
  obtain ⟨rfl, r3⟩ := (show RD a4 z2 from h.1)
  have hR6 : RC w y g7 n5 m := h.2
  exact rf_ok (by exact ⟨⟨rfl, r3⟩, hR6⟩)
noncomputable def N_Arrays_copyOfRange (v0 : Int) (v1 : Int) (v2 : Int) (n : NS) : Option (Int × NS) :=
  if v1 = 0 then
    ty n v0 1 <|
    ck (n 93 0 v0) <|
    if v2 = (n 93 0 v0) then
      none
    else
      nk_Arrays_copyOfRange_10 v0 v1 v2 n
  else
    nk_Arrays_copyOfRange_10 v0 v1 v2 n
theorem f_Arrays_copyOfRange {w y : Prop} {g : g_S} {n : NS} {m : YS} {xv0 : Nat} {v0 : Int} (ev0 : xv0 = Int.toNat v0) (rv0 : 0 ≤ v0 ∧ lc (Int.toNat v0) = (99, v0)) {xv1 : Int32} {v1 : Int} (ev1 : xv1 = Int32.ofInt v1) (rv1 : inR v1) {xv2 : Int32} {v2 : Int} (ev2 : xv2 = Int32.ofInt v2) (rv2 : inR v2) (hR : RC w y g n m) : Rf (fun a b => RD a.1 b.1 ∧ RC w y a.2 b.2 m) (M_Arrays_copyOfRange xv0 xv1 xv2 g) (N_Arrays_copyOfRange v0 v1 v2 n) := by
  subst ev0
  subst ev1
  subst ev2
  unfold M_Arrays_copyOfRange N_Arrays_copyOfRange
  refine rf_eq rfl (e_n 0) rv1 (show inR 0 by decide) ?_ ?_
  · refine d_N (t := 1) hR rv0 (by decide) (fun h2 h3 => ?_)
    refine rf_eq rfl rfl rv2 h2 ?_ ?_
    · exact rf_no
    · exact fk_Arrays_copyOfRange_10 rfl rv0 rfl rv1 rfl rv2 hR
  · exact fk_Arrays_copyOfRange_10 rfl rv0 rfl rv1 rfl rv2 hR
noncomputable def nb_Address_isAt_15 (v0 : Int) (v1 : Int) (v2 : Int) (n : NS) : Option ((Int) ⊕ ((Unit) ⊕ (Unit))) :=
  ty n v0 101 <|
  if v2 < (n 99 v0 4) then
    ty n v0 101 <|
    nn (n 99 v0 0) <|
    dx n (n 99 v0 0) 1 v2 <|
    ty n v1 101 <|
    nn (n 99 v1 0) <|
    dx n (n 99 v1 0) 1 v2 <|
    if (n 99 (n 99 v0 0) v2) = (n 99 (n 99 v1 0) v2) then
      ck (v2 + 1) <|
      some (.inl (v2 + 1))
    else
      some (.inr (.inl ()))
  else
    some (.inr (.inr ()))
theorem fb_Address_isAt_15 {w y : Prop} {g : g_S} {n : NS} {m : YS} {xv0 : Nat} {v0 : Int} (ev0 : xv0 = Int.toNat v0) (rv0 : 0 ≤ v0 ∧ lc (Int.toNat v0) = (99, v0)) {xv1 : Nat} {v1 : Int} (ev1 : xv1 = Int.toNat v1) (rv1 : 0 ≤ v1 ∧ lc (Int.toNat v1) = (99, v1)) {xv2 : Int32} {v2 : Int} (ev2 : xv2 = Int32.ofInt v2) (rv2 : inR v2) (hR : RC w y g n m) : Rf (RS (fun a b => RI a b) (RS (fun _ _ => True) (fun _ _ => True))) (b_Address_isAt_15 xv0 xv1 xv2 g) (nb_Address_isAt_15 v0 v1 v2 n) := by
  subst ev0
  subst ev1
  subst ev2
  unfold b_Address_isAt_15 nb_Address_isAt_15
  refine rf_ty (t := 101) rv0.1 hR (by decide) (fun h2 h3 => ?_)
  refine c_I (s := 4) hR (ce_dy hR rv0 h3 (by decide)) rfl rfl (fun h1 => ?_)
  refine rf_lt rfl rfl rv2 h1 ?_ ?_
  · refine rf_ty (t := 101) rv0.1 hR (by decide) (fun h6 h7 => ?_)
    refine c_D (s := 0) hR (ce_dy hR rv0 h7 (by decide)) rfl rfl rfl (fun h5 => ?_)
    refine d_B hR h5 rfl rv2 (fun h8 h9 => ?_)
    refine rf_ty (t := 101) rv1.1 hR (by decide) (fun h11 h12 => ?_)
    refine c_D (s := 0) hR (ce_dy hR rv1 h12 (by decide)) rfl rfl rfl (fun h10 => ?_)
    refine d_B hR h10 rfl rv2 (fun h13 h14 => ?_)
    refine rf_eq rfl rfl (inB.r h9) (inB.r h14) ?_ ?_
    · refine rf_ck (fun h16 => ?_)
      exact rf_ok (by exact ⟨(e_add rfl (e_n 1)), h16⟩)
    · exact rf_ok (by exact trivial)
  · exact rf_ok (by exact trivial)
noncomputable def NL_Address_isAt_15 (v0 : Int) (v1 : Int) (v2 : Int) (n : NS) : Option ((Unit) ⊕ (Unit)) :=
  it (fun s : Int => nb_Address_isAt_15 v0 v1 s n) (v2)
theorem fL_Address_isAt_15 {w y : Prop} {g : g_S} {n : NS} {m : YS} {xv0 : Nat} {v0 : Int} (ev0 : xv0 = Int.toNat v0) (rv0 : 0 ≤ v0 ∧ lc (Int.toNat v0) = (99, v0)) {xv1 : Nat} {v1 : Int} (ev1 : xv1 = Int.toNat v1) (rv1 : 0 ≤ v1 ∧ lc (Int.toNat v1) = (99, v1)) {xv2 : Int32} {v2 : Int} (ev2 : xv2 = Int32.ofInt v2) (rv2 : inR v2) (hR : RC w y g n m) : Rf (RS (fun _ _ => True) (fun _ _ => True)) (L_Address_isAt_15 xv0 xv1 xv2 g) (NL_Address_isAt_15 v0 v1 v2 n) := by
  subst ev0
  subst ev1
  subst ev2
  unfold L_Address_isAt_15 NL_Address_isAt_15
  refine rf_it (I := (fun a b => RI a b)) (fun s t h => ?_) ⟨rfl, rv2⟩
  exact fb_Address_isAt_15 rfl rv0 rfl rv1 h.1 h.2 hR
theorem NL_Address_isAt_15_eq (v0 : Int) (v1 : Int) (v2 : Int) (n : NS) : NL_Address_isAt_15 v0 v1 v2 n = itc (nb_Address_isAt_15 v0 v1 v2 n) (fun s => NL_Address_isAt_15 v0 v1 s n) := it_eq2 (fun s : Int => nb_Address_isAt_15 v0 v1 s n) (v2)
noncomputable def N_Address_isAt (v0 : Int) (v1 : Int) (n : NS) : Option (Int) :=
  ty n v0 101 <|
  ty n v1 101 <|
  if (n 99 v0 4) = (n 99 v1 4) then
    (NL_Address_isAt_15 v0 v1 0 n).bind <|
      us (fun _ =>
      some 0)
      (fun _ =>
      some 1)
  else
    some 0
theorem f_Address_isAt {w y : Prop} {g : g_S} {n : NS} {m : YS} {xv0 : Nat} {v0 : Int} (ev0 : xv0 = Int.toNat v0) (rv0 : 0 ≤ v0 ∧ lc (Int.toNat v0) = (99, v0)) {xv1 : Nat} {v1 : Int} (ev1 : xv1 = Int.toNat v1) (rv1 : 0 ≤ v1 ∧ lc (Int.toNat v1) = (99, v1)) (hR : RC w y g n m) : Rf (fun a b => RZ a b) (M_Address_isAt xv0 xv1 g) (N_Address_isAt v0 v1 n) := by
  subst ev0
  subst ev1
  unfold M_Address_isAt N_Address_isAt
  refine rf_ty (t := 101) rv0.1 hR (by decide) (fun h2 h3 => ?_)
  refine c_I (s := 4) hR (ce_dy hR rv0 h3 (by decide)) rfl rfl (fun h1 => ?_)
  refine rf_ty (t := 101) rv1.1 hR (by decide) (fun h5 h6 => ?_)
  refine c_I (s := 4) hR (ce_dy hR rv1 h6 (by decide)) rfl rfl (fun h4 => ?_)
  refine rf_eq rfl rfl h1 h4 ?_ ?_
  · refine rf_bind (fL_Address_isAt_15 rfl rv0 rfl rv1 (e_n 0) (show inR 0 by decide) hR) (fun a b h => rf_us h (fun a b h => ?_) (fun a b h => ?_))
    · exact rf_ok (by exact ⟨(e_n 0), (.inl rfl)⟩)
    · exact rf_ok (by exact ⟨(e_n 1), (.inr rfl)⟩)
  · exact rf_ok (by exact ⟨(e_n 0), (.inl rfl)⟩)
noncomputable def nb_Net_putAnswer_2 (v1 : Int) (v2 : Int) (n : NS) : Option ((Int) ⊕ (Int)) :=
  if v2 < (n 6 0 2) then
    ix v2 12 <|
    nn (n 23 0 v2) <|
    ty n (n 23 0 v2) 102 <|
    nn (n 99 (n 23 0 v2) 0) <|
    ty n v1 102 <|
    nn (n 99 v1 0) <|
    ty n (n 99 (n 23 0 v2) 0) 101 <|
    (N_Address_isAt (n 99 (n 23 0 v2) 0) (n 99 v1 0) n).bind fun z15 =>
    if z15 = 0 then
      ck (v2 + 1) <|
      some (.inl (v2 + 1))
    else
      some (.inr v2)
  else
    some (.inr v2)
theorem fb_Net_putAnswer_2 {w y : Prop} {g : g_S} {n : NS} {m : YS} (hw : w) {xv1 : Nat} {v1 : Int} (ev1 : xv1 = Int.toNat v1) (rv1 : 0 ≤ v1 ∧ lc (Int.toNat v1) = (99, v1)) {xv2 : Int32} {v2 : Int} (ev2 : xv2 = Int32.ofInt v2) (rv2 : inR v2) (hR : RC w y g n m) : Rf (RS (fun a b => RI a b) (fun a b => RI a b)) (b_Net_putAnswer_2 1569 xv1 xv2 g) (nb_Net_putAnswer_2 v1 v2 n) := by
  subst ev1
  subst ev2
  unfold b_Net_putAnswer_2 nb_Net_putAnswer_2
  refine c_I (s := 2) hR (sK6 hR hw) rfl rfl (fun h1 => ?_)
  refine rf_lt rfl rfl rv2 h1 ?_ ?_
  · refine c_S hR hw (sK6 hR hw) (by decide) (show srf 6 0 1 = some 1574 from rfl) ?_
    refine s_D (L := 12) hR (sA23 hR hw) (by decide) (lA23 hR hw) rfl rfl rv2 (fun h4 h5 => ?_)
    refine rf_ty (t := 102) h5.1 hR (by decide) (fun h7 h8 => ?_)
    refine c_D (s := 0) hR (ce_dy hR h5 h8 (by decide)) rfl rfl rfl (fun h6 => ?_)
    refine rf_ty (t := 102) rv1.1 hR (by decide) (fun h10 h11 => ?_)
    refine c_D (s := 0) hR (ce_dy hR rv1 h11 (by decide)) rfl rfl rfl (fun h9 => ?_)
    refine rf_ty (t := 101) h6.1 hR (by decide) (fun h13 h14 => ?_)
    refine v_c h13 ?_
    refine rf_bind (f_Address_isAt rfl h6 rfl h9 hR) (fun a17 z15 h => ?_)
    obtain ⟨rfl, r16⟩ := h
    refine rf_eq rfl (e_n 0) (inZ.r r16) (show inR 0 by decide) ?_ ?_
    · refine rf_ck (fun h19 => ?_)
      exact rf_ok (by exact ⟨(e_add rfl (e_n 1)), h19⟩)
    · exact rf_ok (by exact ⟨rfl, rv2⟩)
  · exact rf_ok (by exact ⟨rfl, rv2⟩)
noncomputable def NL_Net_putAnswer_2 (v1 : Int) (v2 : Int) (n : NS) : Option (Int) :=
  it (fun s : Int => nb_Net_putAnswer_2 v1 s n) (v2)
theorem fL_Net_putAnswer_2 {w y : Prop} {g : g_S} {n : NS} {m : YS} (hw : w) {xv1 : Nat} {v1 : Int} (ev1 : xv1 = Int.toNat v1) (rv1 : 0 ≤ v1 ∧ lc (Int.toNat v1) = (99, v1)) {xv2 : Int32} {v2 : Int} (ev2 : xv2 = Int32.ofInt v2) (rv2 : inR v2) (hR : RC w y g n m) : Rf (fun a b => RI a b) (L_Net_putAnswer_2 1569 xv1 xv2 g) (NL_Net_putAnswer_2 v1 v2 n) := by
  subst ev1
  subst ev2
  unfold L_Net_putAnswer_2 NL_Net_putAnswer_2
  refine rf_it (I := (fun a b => RI a b)) (fun s t h => ?_) ⟨rfl, rv2⟩
  exact fb_Net_putAnswer_2 hw rfl rv1 h.1 h.2 hR
theorem NL_Net_putAnswer_2_eq (v1 : Int) (v2 : Int) (n : NS) : NL_Net_putAnswer_2 v1 v2 n = itc (nb_Net_putAnswer_2 v1 v2 n) (fun s => NL_Net_putAnswer_2 v1 s n) := it_eq2 (fun s : Int => nb_Net_putAnswer_2 v1 s n) (v2)
noncomputable def nk_Net_putAnswer_35 (v1 : Int) (v2 : Int) (n : NS) : Option (Int × NS) :=
  if v2 = 12 then
    some ((-1), n)
  else
    ty n v1 102 <|
    ix v2 12 <|
    st (nw n 23 0 v2 v1) fun n7 =>
    ck (v2 + 1) <|
    st (nw n7 6 0 2 (max (n7 6 0 2) (v2 + 1))) fun n14 =>
    some ((n14 6 0 2), n14)
theorem fk_Net_putAnswer_35 {w y : Prop} {g : g_S} {n : NS} {m : YS} (hw : w) {xv1 : Nat} {v1 : Int} (ev1 : xv1 = Int.toNat v1) (rv1 : 0 ≤ v1 ∧ lc (Int.toNat v1) = (99, v1)) {xv2 : Int32} {v2 : Int} (ev2 : xv2 = Int32.ofInt v2) (rv2 : inR v2) (hR : RC w y g n m) : Rf (fun a b => RI a.1 b.1 ∧ RC w y a.2 b.2 m) (k_Net_putAnswer_35 1569 xv1 xv2 g) (nk_Net_putAnswer_35 v1 v2 n) := by
  subst ev1
  subst ev2
  unfold k_Net_putAnswer_35 nk_Net_putAnswer_35
  refine rf_eq rfl (e_n 12) rv2 (show inR 12 by decide) ?_ ?_
  · exact rf_ok (by exact ⟨⟨(e_m 1), (show inR (-1) by decide)⟩, hR⟩)
  · refine c_S hR hw (sK6 hR hw) (by decide) (show srf 6 0 1 = some 1574 from rfl) ?_
    refine rf_ty (t := 102) rv1.1 hR (by decide) (fun h5 h6 => ?_)
    refine t_Q (L := 12) hR (sA23 hR hw) (by decide) (lA23 hR hw) rfl rfl rv2 (fun _ => rfl) h5 (rc_d rv1) (fun g9 n7 hR8 => ?_)
    refine c_I (s := 2) hR8 (sK6 hR8 hw) rfl rfl (fun h10 => ?_)
    refine rf_ck (fun h11 => ?_)
    refine p_I (s := 2) hR8 (sK6 hR8 hw) rfl ⟨rfl, rfl, by decide⟩ (e_mx rfl (e_add rfl (e_n 1)) h10 h11) (max_r h10 h11) (fun g16 n14 hR15 => ?_)
    refine c_I (s := 2) hR15 (sK6 hR15 hw) rfl rfl (fun h17 => ?_)
    exact rf_ok (by exact ⟨⟨rfl, h17⟩, hR15⟩)
noncomputable def N_Net_putAnswer (v1 : Int) (n : NS) : Option (Int × NS) :=
  (NL_Net_putAnswer_2 v1 0 n).bind <| fun z1 =>
  nk_Net_putAnswer_35 v1 z1 n
theorem f_Net_putAnswer {w y : Prop} {g : g_S} {n : NS} {m : YS} (hw : w) {xv1 : Nat} {v1 : Int} (ev1 : xv1 = Int.toNat v1) (rv1 : 0 ≤ v1 ∧ lc (Int.toNat v1) = (99, v1)) (hR : RC w y g n m) : Rf (fun a b => RI a.1 b.1 ∧ RC w y a.2 b.2 m) (M_Net_putAnswer 1569 xv1 g) (N_Net_putAnswer v1 n) := by
  subst ev1
  unfold M_Net_putAnswer N_Net_putAnswer
  refine rf_bind (fL_Net_putAnswer_2 hw rfl rv1 (e_n 0) (show inR 0 by decide) hR) (fun a2 z1 h => ?_)
  obtain ⟨rfl, r3⟩ := (show RI a2 z1 from h)
  exact fk_Net_putAnswer_35 hw rfl rv1 rfl r3 hR
noncomputable def nb_Net_takeServer_63 (v1 : Int) (v2 : Int) (v3 : Int) (v4 : Int) (v5 : Int) (n : NS) : Option ((Int × Int × NS) ⊕ ((Int × NS) ⊕ (Int × NS))) :=
  if v5 < v2 then
    if v4 < v2 then
      dx n v1 1 v4 <|
      if (n 99 v1 v4) = 32 then
        ck (v4 + 1) <|
        (N_Net_fieldEnd v1 (v4 + 1) v2 n).bind fun z8 =>
        ty n v3 102 <|
        (N_Answer_readField v3 v1 (v4 + 1) z8 n).bind <| u2 fun z14 n17 =>
        if z14 = 0 then
          some (.inr (.inl (v4 + 1, n17)))
        else
          ck (v5 + 1) <|
          some (.inl (z8, v5 + 1, n17))
      else
        some (.inr (.inr (v4, n)))
    else
      some (.inr (.inr (v4, n)))
  else
    some (.inr (.inr (v4, n)))
theorem fb_Net_takeServer_63 {w y : Prop} {g : g_S} {n : NS} {m : YS} (hw : w) {xv1 : Nat} {v1 : Int} (ev1 : xv1 = Int.toNat v1) (rv1 : 0 ≤ v1 ∧ lc (Int.toNat v1) = (99, v1)) {xv2 : Int32} {v2 : Int} (ev2 : xv2 = Int32.ofInt v2) (rv2 : inR v2) {xv3 : Nat} {v3 : Int} (ev3 : xv3 = Int.toNat v3) (rv3 : 0 ≤ v3 ∧ lc (Int.toNat v3) = (99, v3)) {xv4 : Int32} {v4 : Int} (ev4 : xv4 = Int32.ofInt v4) (rv4 : inR v4) {xv5 : Int32} {v5 : Int} (ev5 : xv5 = Int32.ofInt v5) (rv5 : inR v5) (hR : RC w y g n m) : Rf (RS (fun a b => RI a.1 b.1 ∧ RI a.2.1 b.2.1 ∧ RC w y a.2.2 b.2.2 m) (RS (fun a b => RI a.1 b.1 ∧ RC w y a.2 b.2 m) (fun a b => RI a.1 b.1 ∧ RC w y a.2 b.2 m))) (b_Net_takeServer_63 1569 xv1 xv2 xv3 xv4 xv5 g) (nb_Net_takeServer_63 v1 v2 v3 v4 v5 n) := by
  subst ev1
  subst ev2
  subst ev3
  subst ev4
  subst ev5
  unfold b_Net_takeServer_63 nb_Net_takeServer_63
  refine rf_lt rfl rfl rv5 rv2 ?_ ?_
  · refine rf_lt rfl rfl rv4 rv2 ?_ ?_
    · refine d_B hR rv1 rfl rv4 (fun h3 h4 => ?_)
      refine rf_eq rfl (e_n 32) (inB.r h4) (show inR 32 by decide) ?_ ?_
      · refine rf_ck (fun h6 => ?_)
        refine rf_bind (f_Net_fieldEnd rfl rv1 (e_add rfl (e_n 1)) h6 rfl rv2 hR) (fun a10 z8 h => ?_)
        obtain ⟨rfl, r9⟩ := h
        refine rf_ty (t := 102) rv3.1 hR (by decide) (fun h12 h13 => ?_)
        refine v_c2 h12 ?_
        refine rf_c2 (f_Answer_readField rfl rv3 rfl rv1 (e_add rfl (e_n 1)) h6 rfl r9 hR) (fun a16 g19 b h => ?_)
        obtain ⟨z14, n17⟩ := b
        refine rf_v2 ?_
        obtain ⟨rfl, r15⟩ := (show RZ a16 z14 from h.1)
        have hR18 : RC w y g19 n17 m := h.2
        refine rf_eq rfl (e_n 0) (inZ.r r15) (show inR 0 by decide) ?_ ?_
        · exact rf_ok (by exact ⟨⟨(e_add rfl (e_n 1)), h6⟩, hR18⟩)
        · refine rf_ck (fun h21 => ?_)
          exact rf_ok (by exact ⟨⟨rfl, r9⟩, ⟨(e_add rfl (e_n 1)), h21⟩, hR18⟩)
      · exact rf_ok (by exact ⟨⟨rfl, rv4⟩, hR⟩)
    · exact rf_ok (by exact ⟨⟨rfl, rv4⟩, hR⟩)
  · exact rf_ok (by exact ⟨⟨rfl, rv4⟩, hR⟩)
noncomputable def NL_Net_takeServer_63 (v1 : Int) (v2 : Int) (v3 : Int) (v4 : Int) (v5 : Int) (n : NS) : Option ((Int × NS) ⊕ (Int × NS)) :=
  it (fun s : Int × Int × NS => nb_Net_takeServer_63 v1 v2 v3 s.1 s.2.1 s.2.2) (v4, v5, n)
theorem fL_Net_takeServer_63 {w y : Prop} {g : g_S} {n : NS} {m : YS} (hw : w) {xv1 : Nat} {v1 : Int} (ev1 : xv1 = Int.toNat v1) (rv1 : 0 ≤ v1 ∧ lc (Int.toNat v1) = (99, v1)) {xv2 : Int32} {v2 : Int} (ev2 : xv2 = Int32.ofInt v2) (rv2 : inR v2) {xv3 : Nat} {v3 : Int} (ev3 : xv3 = Int.toNat v3) (rv3 : 0 ≤ v3 ∧ lc (Int.toNat v3) = (99, v3)) {xv4 : Int32} {v4 : Int} (ev4 : xv4 = Int32.ofInt v4) (rv4 : inR v4) {xv5 : Int32} {v5 : Int} (ev5 : xv5 = Int32.ofInt v5) (rv5 : inR v5) (hR : RC w y g n m) : Rf (RS (fun a b => RI a.1 b.1 ∧ RC w y a.2 b.2 m) (fun a b => RI a.1 b.1 ∧ RC w y a.2 b.2 m)) (L_Net_takeServer_63 1569 xv1 xv2 xv3 xv4 xv5 g) (NL_Net_takeServer_63 v1 v2 v3 v4 v5 n) := by
  subst ev1
  subst ev2
  subst ev3
  subst ev4
  subst ev5
  unfold L_Net_takeServer_63 NL_Net_takeServer_63
  refine rf_it (I := (fun a b => RI a.1 b.1 ∧ RI a.2.1 b.2.1 ∧ RC w y a.2.2 b.2.2 m)) (fun s t h => ?_) ⟨⟨rfl, rv4⟩, ⟨rfl, rv5⟩, hR⟩
  exact fb_Net_takeServer_63 hw rfl rv1 rfl rv2 rfl rv3 h.1.1 h.1.2 h.2.1.1 h.2.1.2 h.2.2
theorem NL_Net_takeServer_63_eq (v1 : Int) (v2 : Int) (v3 : Int) (v4 : Int) (v5 : Int) (n : NS) : NL_Net_takeServer_63 v1 v2 v3 v4 v5 n = itc (nb_Net_takeServer_63 v1 v2 v3 v4 v5 n) (fun s => NL_Net_takeServer_63 v1 v2 v3 s.1 s.2.1 s.2.2) := it_eq2 (fun s : Int × Int × NS => nb_Net_takeServer_63 v1 v2 v3 s.1 s.2.1 s.2.2) (v4, v5, n)
noncomputable def nk_Net_takeServer_124 (v1 : Int) (v2 : Int) (v3 : Int) (v4 : Int) (n : NS) : Option (Int × NS) :=
  if v4 = v2 then
    ck ((-1000) - v2) <|
    some ((-1000) - v2, n)
  else
    ck (v2 - v4) <|
    ck ((v2 - v4) - 1) <|
    if 1500 < ((v2 - v4) - 1) then
      ck (v4 + 1) <|
      ck ((v4 + 1) + 1500) <|
      ck ((-1000) - ((v4 + 1) + 1500)) <|
      some ((-1000) - ((v4 + 1) + 1500), n)
    else
      ck (v4 + 1) <|
      (N_Arrays_copyOfRange v1 (v4 + 1) v2 n).bind <| u2 fun z13 n16 =>
      ty n16 v3 102 <|
      st (nw n16 99 v3 6 z13) fun n22 =>
      (N_Net_putAnswer v3 n22).bind <| u2 fun z26 n29 =>
      some (z26, n29)
theorem fk_Net_takeServer_124 {w y : Prop} {g : g_S} {n : NS} {m : YS} (hw : w) {xv1 : Nat} {v1 : Int} (ev1 : xv1 = Int.toNat v1) (rv1 : 0 ≤ v1 ∧ lc (Int.toNat v1) = (99, v1)) {xv2 : Int32} {v2 : Int} (ev2 : xv2 = Int32.ofInt v2) (rv2 : inR v2) {xv3 : Nat} {v3 : Int} (ev3 : xv3 = Int.toNat v3) (rv3 : 0 ≤ v3 ∧ lc (Int.toNat v3) = (99, v3)) {xv4 : Int32} {v4 : Int} (ev4 : xv4 = Int32.ofInt v4) (rv4 : inR v4) (hR : RC w y g n m) : Rf (fun a b => RI a.1 b.1 ∧ RC w y a.2 b.2 m) (k_Net_takeServer_124 1569 xv1 xv2 xv3 xv4 g) (nk_Net_takeServer_124 v1 v2 v3 v4 n) := by
  subst ev1
  subst ev2
  subst ev3
  subst ev4
  unfold k_Net_takeServer_124 nk_Net_takeServer_124
  refine rf_eq rfl rfl rv4 rv2 ?_ ?_
  · refine rf_ck (fun h2 => ?_)
    exact rf_ok (by exact ⟨⟨(e_sub (e_m 1000) rfl), h2⟩, hR⟩)
  · refine rf_ck (fun h4 => ?_)
    refine rf_ck (fun h5 => ?_)
    refine rf_lt (e_n 1500) (e_sub (e_sub rfl rfl) (e_n 1)) (show inR 1500 by decide) h5 ?_ ?_
    · refine rf_ck (fun h7 => ?_)
      refine rf_ck (fun h8 => ?_)
      refine rf_ck (fun h9 => ?_)
      exact rf_ok (by exact ⟨⟨(e_sub (e_m 1000) (e_add (e_add rfl (e_n 1)) (e_n 1500))), h9⟩, hR⟩)
    · refine rf_ck (fun h11 => ?_)
      refine rf_c2 (f_Arrays_copyOfRange rfl rv1 (e_add rfl (e_n 1)) h11 rfl rv2 hR) (fun a15 g18 b h => ?_)
      obtain ⟨z13, n16⟩ := b
      refine rf_v2 ?_
      obtain ⟨rfl, r14⟩ := (show RD a15 z13 from h.1)
      have hR17 : RC w y g18 n16 m := h.2
      refine rf_ty (t := 102) rv3.1 hR17 (by decide) (fun h20 h21 => ?_)
      refine p_R (s := 6) (a := _) hR17 (ce_dy hR17 rv3 h21 (by decide)) rfl rfl rfl (rc_d r14) (fun g24 n22 hR23 => ?_)
      refine v_c2 (sK6 hR23 hw).1 ?_
      refine rf_c2 (f_Net_putAnswer hw rfl rv3 hR23) (fun a28 g31 b h => ?_)
      obtain ⟨z26, n29⟩ := b
      refine rf_v2 ?_
      obtain ⟨rfl, r27⟩ := (show RI a28 z26 from h.1)
      have hR30 : RC w y g31 n29 m := h.2
      exact rf_ok (by exact ⟨⟨rfl, r27⟩, hR30⟩)
noncomputable def N_Net_takeServer (v1 : Int) (v2 : Int) (n : NS) : Option (Int × NS) :=
  al1 n <|
  st (nnew n 102 0 8) fun n2 =>
  (N_Answer_init (n 90 0 0) n2).bind fun n8 =>
  (N_Net_fieldEnd v1 0 v2 n8).bind fun z12 =>
  (N_Bytes_stands 1000005 v1 0 z12 n8).bind fun z17 =>
  if z17 = 0 then
    some ((-1000), n8)
  else
    ty n8 (n 90 0 0) 102 <|
    nn (n8 99 (n 90 0 0) 0) <|
    ty n8 (n8 99 (n 90 0 0) 0) 101 <|
    (N_Address_read (n8 99 (n 90 0 0) 0) v1 0 z12 1582 n8).bind <| u2 fun z29 n32 =>
    if z29 = 0 then
      some ((-1000), n32)
    else
      ty n32 (n 90 0 0) 102 <|
      nn (n32 99 (n 90 0 0) 0) <|
      ty n32 (n32 99 (n 90 0 0) 0) 101 <|
      (N_Address_hasMark (n32 99 (n 90 0 0) 0) n32).bind fun z43 =>
      if z43 = 0 then
        (NL_Net_takeServer_63 v1 v2 (n 90 0 0) z12 0 n32).bind <|
          us (u2 fun z47 n48 =>
          ck ((-1000) - z47) <|
          some ((-1000) - z47, n48))
          (u2 fun z55 n56 =>
          nk_Net_takeServer_124 v1 v2 (n 90 0 0) z55 n56)
      else
        some ((-1000), n32)
theorem f_Net_takeServer {w y : Prop} {g : g_S} {n : NS} {m : YS} (hw : w) {xv1 : Nat} {v1 : Int} (ev1 : xv1 = Int.toNat v1) (rv1 : 0 ≤ v1 ∧ lc (Int.toNat v1) = (99, v1)) {xv2 : Int32} {v2 : Int} (ev2 : xv2 = Int32.ofInt v2) (rv2 : inR v2) (hR : RC w y g n m) : Rf (fun a b => RI a.1 b.1 ∧ RC w y a.2 b.2 m) (M_Net_takeServer 1569 xv1 xv2 g) (N_Net_takeServer v1 v2 n) := by
  subst ev1
  subst ev2
  unfold M_Net_takeServer N_Net_takeServer
  refine n_O hR (by decide) rfl (fun h5 g4 n2 hR3 h6 => ?_)
  refine rf_bind (f_Answer_init rfl h5 hR3) (fun g10 n8 hR9 => ?_)
  refine rf_bind (f_Net_fieldEnd rfl rv1 (e_n 0) (show inR 0 by decide) rfl rv2 hR9) (fun a14 z12 h => ?_)
  obtain ⟨rfl, r13⟩ := h
  refine rf_bind (f_Bytes_stands rfl rv1 (e_n 0) (show inR 0 by decide) rfl r13 hR9) (fun a19 z17 h => ?_)
  obtain ⟨rfl, r18⟩ := h
  refine rf_eq rfl (e_n 0) (inZ.r r18) (show inR 0 by decide) ?_ ?_
  · exact rf_ok (by exact ⟨⟨(e_m 1000), (show inR (-1000) by decide)⟩, hR9⟩)
  · refine rf_ty (t := 102) h5.1 hR9 (by decide) (fun h23 h24 => ?_)
    refine c_D (s := 0) hR9 (ce_dy hR9 h5 h24 (by decide)) rfl rfl rfl (fun h22 => ?_)
    refine c_S hR9 hw (sK6 hR9 hw) (by decide) (show srf 6 0 13 = some 1582 from rfl) ?_
    refine rf_ty (t := 101) h22.1 hR9 (by decide) (fun h27 h28 => ?_)
    refine v_c2 h27 ?_
    refine rf_c2 (f_Address_read rfl h22 rfl rv1 (e_n 0) (show inR 0 by decide) rfl r13 rfl dS1582 hR9) (fun a31 g34 b h => ?_)
    obtain ⟨z29, n32⟩ := b
    refine rf_v2 ?_
    obtain ⟨rfl, r30⟩ := (show RZ a31 z29 from h.1)
    have hR33 : RC w y g34 n32 m := h.2
    refine rf_eq rfl (e_n 0) (inZ.r r30) (show inR 0 by decide) ?_ ?_
    · exact rf_ok (by exact ⟨⟨(e_m 1000), (show inR (-1000) by decide)⟩, hR33⟩)
    · refine rf_ty (t := 102) h5.1 hR33 (by decide) (fun h38 h39 => ?_)
      refine c_D (s := 0) hR33 (ce_dy hR33 h5 h39 (by decide)) rfl rfl rfl (fun h37 => ?_)
      refine rf_ty (t := 101) h37.1 hR33 (by decide) (fun h41 h42 => ?_)
      refine v_c h41 ?_
      refine rf_bind (f_Address_hasMark rfl h37 hR33) (fun a45 z43 h => ?_)
      obtain ⟨rfl, r44⟩ := h
      refine rf_eq rfl (e_n 0) (inZ.r r44) (show inR 0 by decide) ?_ ?_
      · refine rf_bind (fL_Net_takeServer_63 hw rfl rv1 rfl rv2 rfl h5 rfl r13 (e_n 0) (show inR 0 by decide) hR33) (fun a b h => rf_us h (fun a b h => ?_) (fun a b h => ?_))
        · obtain ⟨a49, a50⟩ := a
          obtain ⟨z47, n48⟩ := b
          refine rf_u2 ?_
          obtain ⟨rfl, r52⟩ := (show RI a49 z47 from h.1)
          have hR51 : RC w y a50 n48 m := h.2
          refine rf_ck (fun h53 => ?_)
          exact rf_ok (by exact ⟨⟨(e_sub (e_m 1000) rfl), h53⟩, hR51⟩)
        · obtain ⟨a57, a58⟩ := a
          obtain ⟨z55, n56⟩ := b
          refine rf_u2 ?_
          obtain ⟨rfl, r60⟩ := (show RI a57 z55 from h.1)
          have hR59 : RC w y a58 n56 m := h.2
          exact fk_Net_takeServer_124 hw rfl rv1 rfl rv2 rfl h5 rfl r60 hR59
      · exact rf_ok (by exact ⟨⟨(e_m 1000), (show inR (-1000) by decide)⟩, hR33⟩)
noncomputable def nk_H_server_31 (v1 : Int) (n : NS) : Option (Int × NS) :=
  (N_Bytes_clear 605 n).bind fun n3 =>
  some (v1, n3)
theorem fk_H_server_31 {w y : Prop} {g : g_S} {n : NS} {m : YS} (hw : w) {xv1 : Int32} {v1 : Int} (ev1 : xv1 = Int32.ofInt v1) (rv1 : inR v1) (hR : RC w y g n m) : Rf (fun a b => RI a.1 b.1 ∧ RC w y a.2 b.2 m) (k_H_server_31 0 xv1 g) (nk_H_server_31 v1 n) := by
  subst ev1
  unfold k_H_server_31 nk_H_server_31
  refine c_S hR hw (sK11 hR hw) (by decide) (show srf 11 0 0 = some 1 from rfl) ?_
  refine v_c (bS605 ▸ (ce_by hR hw (by decide))).1 ?_
  refine rf_bind (f_Bytes_clear hw bS605.symm (by decide) hR) (fun g5 n3 hR4 => ?_)
  exact rf_ok (by exact ⟨⟨rfl, rv1⟩, hR4⟩)
noncomputable def N_H_server (n : NS) : Option (Int × NS) :=
  (N_H_wrongByte n).bind fun z2 =>
  if z2 = 0 then
    nn (n 4 605 1) <|
    (N_Net_takeServer (n 4 605 1) (n 4 605 2) n).bind <| u2 fun z12 n15 =>
    nk_H_server_31 z12 n15
  else
    nk_H_server_31 z2 n
theorem f_H_server {w y : Prop} {g : g_S} {n : NS} {m : YS} (hw : w) (hR : RC w y g n m) : Rf (fun a b => RI a.1 b.1 ∧ RC w y a.2 b.2 m) (M_H_server 0 g) (N_H_server n) := by
  unfold M_H_server N_H_server
  refine v_c (sK11 hR hw).1 ?_
  refine rf_bind (f_H_wrongByte hw hR) (fun a4 z2 h => ?_)
  obtain ⟨rfl, r3⟩ := h
  refine rf_eq rfl (e_n 0) r3 (show inR 0 by decide) ?_ ?_
  · refine c_S hR hw (sK11 hR hw) (by decide) (show srf 11 0 3 = some 1569 from rfl) ?_
    refine c_S hR hw (sK11 hR hw) (by decide) (show srf 11 0 0 = some 1 from rfl) ?_
    refine c_D (s := 1) hR (bS605 ▸ (ce_by hR hw (by decide))) rfl rfl rfl (fun h8 => ?_)
    refine c_S hR hw (sK11 hR hw) (by decide) (show srf 11 0 0 = some 1 from rfl) ?_
    refine c_I (s := 2) hR (bS605 ▸ (ce_by hR hw (by decide))) rfl rfl (fun h10 => ?_)
    refine v_c2 (sK6 hR hw).1 ?_
    refine rf_c2 (f_Net_takeServer hw rfl h8 rfl h10 hR) (fun a14 g17 b h => ?_)
    obtain ⟨z12, n15⟩ := b
    refine rf_v2 ?_
    obtain ⟨rfl, r13⟩ := (show RI a14 z12 from h.1)
    have hR16 : RC w y g17 n15 m := h.2
    exact fk_H_server_31 hw rfl r13 hR16
  · exact fk_H_server_31 hw rfl r3 hR
