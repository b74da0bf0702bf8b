/-! methods on numbers, group 5 -/
noncomputable def nk_Layout_layFlow_293 (v1 : Int) (v2 : Int) (v4 : Int) (v5 : Int) (v6 : Int) (v7 : Int) (v8 : Int) (v9 : Int) (n : NS) : Option ((Int × Int × Int × Int × NS) ⊕ (Int × NS)) :=
  ix v8 120 <|
  if (n 7 v8 0) = 17 then
    ix v8 120 <|
    (N_Layout_putWords (5 * v8) v9 n).bind fun n13 =>
    ck (v7 + 1) <|
    some (.inl (0, v4, v6, v7 + 1, n13))
  else
    (N_Layout_layInLines v8 v9 n).bind fun n18 =>
    ck (v7 + 1) <|
    some (.inl (0, v4, v6, v7 + 1, n18))
theorem fk_Layout_layFlow_293 {w y : Prop} {g : g_S} {n : NS} {m : YS} (hw : w) {xv1 : Int32} {v1 : Int} (ev1 : xv1 = Int32.ofInt v1) (rv1 : inR v1) {xv2 : Nat} {v2 : Int} (ev2 : xv2 = aBx v2) (rv2 : 0 ≤ v2 ∧ v2 ≤ 120) {xv4 : Option Nat} {v4 : Int} (ev4 : xv4 = oBx v4) (rv4 : v4 ≤ 120) {xv5 : Int32} {v5 : Int} (ev5 : xv5 = Int32.ofInt v5) (rv5 : inR v5) {xv6 : Int32} {v6 : Int} (ev6 : xv6 = Int32.ofInt v6) (rv6 : inR v6) {xv7 : Int32} {v7 : Int} (ev7 : xv7 = Int32.ofInt v7) (rv7 : inR v7) {xv8 : Int32} {v8 : Int} (ev8 : xv8 = Int32.ofInt v8) (rv8 : inR v8) {xv9 : Nat} {v9 : Int} (ev9 : xv9 = aBx v9) (rv9 : 0 ≤ v9 ∧ v9 ≤ 120) (hR : RC w y g n m) : Rf (RS (fun a b => RI a.1 b.1 ∧ RoX a.2.1 b.2.1 ∧ RI a.2.2.1 b.2.2.1 ∧ RI a.2.2.2.1 b.2.2.2.1 ∧ RC w y a.2.2.2.2 b.2.2.2.2 m) (fun a b => RoX a.1 b.1 ∧ RC w y a.2 b.2 m)) (k_Layout_layFlow_293 1661 xv1 xv2 xv4 xv5 xv6 xv7 xv8 xv9 g) (nk_Layout_layFlow_293 v1 v2 v4 v5 v6 v7 v8 v9 n) := by
  subst ev1
  subst ev2
  subst ev4
  subst ev5
  subst ev6
  subst ev7
  subst ev8
  subst ev9
  unfold k_Layout_layFlow_293 nk_Layout_layFlow_293
  refine c_S hR hw (sK5 hR hw) (by decide) (show srf 5 0 0 = some 5 from rfl) ?_
  refine c_S hR hw (sK10 hR hw) (by decide) (show srf 10 0 0 = some 6 from rfl) ?_
  refine s_S (p := aNd (_)) (L := 120) hR hw (sA20 hR hw) (by decide) (lA20 hR hw) rfl rfl rv8 (fun z1 z2 => srf20 z1 z2) (fun h3 => ?_)
  refine c_I (s := 0) hR (ce_nd hR hw (And.intro h3.1 (Int.le_of_lt h3.2))) rfl rfl (fun h5 => ?_)
  refine rf_eq rfl (e_n 17) h5 (show inR 17 by decide) ?_ ?_
  · refine c_S hR hw (sK5 hR hw) (by decide) (show srf 5 0 0 = some 5 from rfl) ?_
    refine c_S hR hw (sK10 hR hw) (by decide) (show srf 10 0 0 = some 6 from rfl) ?_
    refine s_S (p := aNd (_)) (L := 120) hR hw (sA20 hR hw) (by decide) (lA20 hR hw) rfl rfl rv8 (fun z1 z2 => srf20 z1 z2) (fun h9 => ?_)
    refine c_S (p := _) hR hw (ce_nd hR hw (And.intro h9.1 (Int.le_of_lt h9.2))) (Nat.lt_trans (nd_lt (And.intro h9.1 (Int.le_of_lt h9.2))).1 (by decide)) rfl ?_
    refine v_c (sK5 hR hw).1 ?_
    refine rf_bind (f_Layout_putWords hw rfl (by5 (And.intro h9.1 (Int.le_of_lt h9.2))) rfl rv9 hR) (fun g15 n13 hR14 => ?_)
    refine rf_ck (fun h16 => ?_)
    exact rf_ok (by exact ⟨⟨(e_n 0), (show inR 0 by decide)⟩, ⟨rfl, rv4⟩, ⟨rfl, rv6⟩, ⟨(e_add rfl (e_n 1)), h16⟩, hR14⟩)
  · refine v_c (sK5 hR hw).1 ?_
    refine rf_bind (f_Layout_layInLines hw rfl rv8 rfl rv9 hR) (fun g20 n18 hR19 => ?_)
    refine rf_ck (fun h21 => ?_)
    exact rf_ok (by exact ⟨⟨(e_n 0), (show inR 0 by decide)⟩, ⟨rfl, rv4⟩, ⟨rfl, rv6⟩, ⟨(e_add rfl (e_n 1)), h21⟩, hR19⟩)
noncomputable def nk_Layout_layFlow_205 (v1 : Int) (v2 : Int) (v5 : Int) (v6 : Int) (v7 : Int) (v9 : Int) (w0 : Int) (n : NS) : Option ((Int × Int × Int × Int × NS) ⊕ (Int × NS)) :=
  ck ((n 3 v2 8) + (n 3 v9 6)) <|
  st (nw n 3 v9 2 ((n 3 v2 8) + (n 3 v9 6))) fun n5 =>
  ck ((n5 5 0 11) + w0) <|
  st (nw n5 3 v9 3 (max ((n5 5 0 11) + w0) (n5 5 0 19))) fun n13 =>
  ck ((n13 3 v9 3) + (n13 3 v9 5)) <|
  st (nw n13 5 0 11 ((n13 3 v9 3) + (n13 3 v9 5))) fun n20 =>
  ck (v7 + 1) <|
  some (.inl (0, v9, v6, v7 + 1, n20))
theorem fk_Layout_layFlow_205 {w y : Prop} {g : g_S} {n : NS} {m : YS} (hw : w) {xv1 : Int32} {v1 : Int} (ev1 : xv1 = Int32.ofInt v1) (rv1 : inR v1) {xv2 : Nat} {v2 : Int} (ev2 : xv2 = aBx v2) (rv2 : 0 ≤ v2 ∧ v2 ≤ 120) {xv5 : Int32} {v5 : Int} (ev5 : xv5 = Int32.ofInt v5) (rv5 : inR v5) {xv6 : Int32} {v6 : Int} (ev6 : xv6 = Int32.ofInt v6) (rv6 : inR v6) {xv7 : Int32} {v7 : Int} (ev7 : xv7 = Int32.ofInt v7) (rv7 : inR v7) {xv9 : Nat} {v9 : Int} (ev9 : xv9 = aBx v9) (rv9 : 0 ≤ v9 ∧ v9 ≤ 120) {xw0 : Int32} {w0 : Int} (ew0 : xw0 = Int32.ofInt w0) (rw0 : inR w0) (hR : RC w y g n m) : Rf (RS (fun a b => RI a.1 b.1 ∧ RoX a.2.1 b.2.1 ∧ RI a.2.2.1 b.2.2.1 ∧ RI a.2.2.2.1 b.2.2.2.1 ∧ RC w y a.2.2.2.2 b.2.2.2.2 m) (fun a b => RoX a.1 b.1 ∧ RC w y a.2 b.2 m)) (k_Layout_layFlow_205 1661 xv1 xv2 xv5 xv6 xv7 xv9 xw0 g) (nk_Layout_layFlow_205 v1 v2 v5 v6 v7 v9 w0 n) := by
  subst ev1
  subst ev2
  subst ev5
  subst ev6
  subst ev7
  subst ev9
  subst ew0
  unfold k_Layout_layFlow_205 nk_Layout_layFlow_205
  refine c_I (s := 8) hR (ce_bx hR hw rv2) rfl rfl (fun h1 => ?_)
  refine c_I (s := 6) hR (ce_bx hR hw rv9) rfl rfl (fun h2 => ?_)
  refine rf_ck (fun h3 => ?_)
  refine p_I (s := 2) hR (ce_bx hR hw rv9) rfl ⟨rfl, rfl, by decide⟩ (e_add rfl rfl) h3 (fun g7 n5 hR6 => ?_)
  refine c_I (s := 11) hR6 (sK5 hR6 hw) rfl rfl (fun h8 => ?_)
  refine rf_ck (fun h9 => ?_)
  refine c_I (s := 19) hR6 (sK5 hR6 hw) rfl rfl (fun h10 => ?_)
  refine p_I (s := 3) hR6 (ce_bx hR6 hw rv9) rfl ⟨rfl, rfl, by decide⟩ (e_mx (e_add rfl rfl) rfl h9 h10) (max_r h9 h10) (fun g15 n13 hR14 => ?_)
  refine c_I (s := 3) hR14 (ce_bx hR14 hw rv9) rfl rfl (fun h16 => ?_)
  refine c_I (s := 5) hR14 (ce_bx hR14 hw rv9) rfl rfl (fun h17 => ?_)
  refine rf_ck (fun h18 => ?_)
  refine p_I (s := 11) hR14 (sK5 hR14 hw) rfl ⟨rfl, rfl, by decide⟩ (e_add rfl rfl) h18 (fun g22 n20 hR21 => ?_)
  refine rf_ck (fun h23 => ?_)
  exact rf_ok (by exact ⟨⟨(e_n 0), (show inR 0 by decide)⟩, ⟨(ox_s rv9.1), rv9.2⟩, ⟨rfl, rv6⟩, ⟨(e_add rfl (e_n 1)), h23⟩, hR21⟩)
noncomputable def nk_Layout_layFlow_180 (v1 : Int) (v2 : Int) (v4 : Int) (v5 : Int) (v6 : Int) (v7 : Int) (v9 : Int) (w0 : Int) (n : NS) : Option ((Int × Int × Int × Int × NS) ⊕ (Int × NS)) :=
  if v4 < 0 then
    nk_Layout_layFlow_205 v1 v2 v5 v6 v7 v9 w0 n
  else
    nk_Layout_layFlow_205 v1 v2 v5 v6 v7 v9 (max (n 3 v4 15) (n 3 v9 14)) n
theorem fk_Layout_layFlow_180 {w y : Prop} {g : g_S} {n : NS} {m : YS} (hw : w) {xv1 : Int32} {v1 : Int} (ev1 : xv1 = Int32.ofInt v1) (rv1 : inR v1) {xv2 : Nat} {v2 : Int} (ev2 : xv2 = aBx v2) (rv2 : 0 ≤ v2 ∧ v2 ≤ 120) {xv4 : Option Nat} {v4 : Int} (ev4 : xv4 = oBx v4) (rv4 : v4 ≤ 120) {xv5 : Int32} {v5 : Int} (ev5 : xv5 = Int32.ofInt v5) (rv5 : inR v5) {xv6 : Int32} {v6 : Int} (ev6 : xv6 = Int32.ofInt v6) (rv6 : inR v6) {xv7 : Int32} {v7 : Int} (ev7 : xv7 = Int32.ofInt v7) (rv7 : inR v7) {xv9 : Nat} {v9 : Int} (ev9 : xv9 = aBx v9) (rv9 : 0 ≤ v9 ∧ v9 ≤ 120) {xw0 : Int32} {w0 : Int} (ew0 : xw0 = Int32.ofInt w0) (rw0 : inR w0) (hR : RC w y g n m) : Rf (RS (fun a b => RI a.1 b.1 ∧ RoX a.2.1 b.2.1 ∧ RI a.2.2.1 b.2.2.1 ∧ RI a.2.2.2.1 b.2.2.2.1 ∧ RC w y a.2.2.2.2 b.2.2.2.2 m) (fun a b => RoX a.1 b.1 ∧ RC w y a.2 b.2 m)) (k_Layout_layFlow_180 1661 xv1 xv2 xv4 xv5 xv6 xv7 xv9 xw0 g) (nk_Layout_layFlow_180 v1 v2 v4 v5 v6 v7 v9 w0 n) := by
  subst ev1
  subst ev2
  subst ev4
  subst ev5
  subst ev6
  subst ev7
  subst ev9
  subst ew0
  unfold k_Layout_layFlow_180 nk_Layout_layFlow_180
  refine rf_ox (fun h1 => ?_) (fun h1 => ?_)
  · refine c_I (s := 15) hR (ce_bx hR hw (And.intro h1 rv4)) rfl rfl (fun h3 => ?_)
    refine c_I (s := 14) hR (ce_bx hR hw rv9) rfl rfl (fun h4 => ?_)
    exact fk_Layout_layFlow_205 hw rfl rv1 rfl rv2 rfl rv5 rfl rv6 rfl rv7 rfl rv9 (e_mx rfl rfl h3 h4) (max_r h3 h4) hR
  · exact fk_Layout_layFlow_205 hw rfl rv1 rfl rv2 rfl rv5 rfl rv6 rfl rv7 rfl rv9 rfl rw0 hR
noncomputable def nk_Layout_layFlow_175 (v1 : Int) (v2 : Int) (v4 : Int) (v5 : Int) (v6 : Int) (v7 : Int) (v9 : Int) (n : NS) : Option ((Int × Int × Int × Int × NS) ⊕ (Int × NS)) :=
  nk_Layout_layFlow_180 v1 v2 v4 v5 v6 v7 v9 (n 3 v9 14) n
theorem fk_Layout_layFlow_175 {w y : Prop} {g : g_S} {n : NS} {m : YS} (hw : w) {xv1 : Int32} {v1 : Int} (ev1 : xv1 = Int32.ofInt v1) (rv1 : inR v1) {xv2 : Nat} {v2 : Int} (ev2 : xv2 = aBx v2) (rv2 : 0 ≤ v2 ∧ v2 ≤ 120) {xv4 : Option Nat} {v4 : Int} (ev4 : xv4 = oBx v4) (rv4 : v4 ≤ 120) {xv5 : Int32} {v5 : Int} (ev5 : xv5 = Int32.ofInt v5) (rv5 : inR v5) {xv6 : Int32} {v6 : Int} (ev6 : xv6 = Int32.ofInt v6) (rv6 : inR v6) {xv7 : Int32} {v7 : Int} (ev7 : xv7 = Int32.ofInt v7) (rv7 : inR v7) {xv9 : Nat} {v9 : Int} (ev9 : xv9 = aBx v9) (rv9 : 0 ≤ v9 ∧ v9 ≤ 120) (hR : RC w y g n m) : Rf (RS (fun a b => RI a.1 b.1 ∧ RoX a.2.1 b.2.1 ∧ RI a.2.2.1 b.2.2.1 ∧ RI a.2.2.2.1 b.2.2.2.1 ∧ RC w y a.2.2.2.2 b.2.2.2.2 m) (fun a b => RoX a.1 b.1 ∧ RC w y a.2 b.2 m)) (k_Layout_layFlow_175 1661 xv1 xv2 xv4 xv5 xv6 xv7 xv9 g) (nk_Layout_layFlow_175 v1 v2 v4 v5 v6 v7 v9 n) := by
  subst ev1
  subst ev2
  subst ev4
  subst ev5
  subst ev6
  subst ev7
  subst ev9
  unfold k_Layout_layFlow_175 nk_Layout_layFlow_175
  refine c_I (s := 14) hR (ce_bx hR hw rv9) rfl rfl (fun h1 => ?_)
  exact fk_Layout_layFlow_180 hw rfl rv1 rfl rv2 rfl rv4 rfl rv5 rfl rv6 rfl rv7 rfl rv9 rfl h1 hR
noncomputable def nk_Layout_layFlow_146 (v1 : Int) (v2 : Int) (v3 : Int) (v4 : Int) (v5 : Int) (v7 : Int) (v8 : Int) (v9 : Int) (w0 : Int) (n : NS) : Option ((Int × Int × Int × Int × NS) ⊕ (Int × NS)) :=
  (N_Box_isBlockInFlow v9 n).bind fun z2 =>
  if z2 = 0 then
    if v4 < 0 then
      nk_Layout_layFlow_293 v1 v2 (-1) v5 w0 v7 v8 v9 n
    else
      ck ((n 5 0 11) + (n 3 v4 15)) <|
      st (nw n 5 0 11 ((n 5 0 11) + (n 3 v4 15))) fun n12 =>
      (N_Layout_openAt (n12 5 0 11) n12).bind fun n17 =>
      nk_Layout_layFlow_293 v1 v2 (-1) v5 w0 v7 v8 v9 n17
  else
    (N_Layout_closeLine n).bind fun n22 =>
    if v3 = 0 then
      nk_Layout_layFlow_175 v1 v2 v4 v5 w0 v7 v9 n22
    else
      if (n22 3 v2 16) = 0 then
        nk_Layout_layFlow_175 v1 v2 v4 v5 w0 v7 v9 n22
      else
        nk_Layout_layFlow_180 v1 v2 v4 v5 w0 v7 v9 0 n22
theorem fk_Layout_layFlow_146 {w y : Prop} {g : g_S} {n : NS} {m : YS} (hw : w) {xv1 : Int32} {v1 : Int} (ev1 : xv1 = Int32.ofInt v1) (rv1 : inR v1) {xv2 : Nat} {v2 : Int} (ev2 : xv2 = aBx v2) (rv2 : 0 ≤ v2 ∧ v2 ≤ 120) {xv3 : Int32} {v3 : Int} (ev3 : xv3 = Int32.ofInt v3) (rv3 : inR v3) {xv4 : Option Nat} {v4 : Int} (ev4 : xv4 = oBx v4) (rv4 : v4 ≤ 120) {xv5 : Int32} {v5 : Int} (ev5 : xv5 = Int32.ofInt v5) (rv5 : inR v5) {xv7 : Int32} {v7 : Int} (ev7 : xv7 = Int32.ofInt v7) (rv7 : inR v7) {xv8 : Int32} {v8 : Int} (ev8 : xv8 = Int32.ofInt v8) (rv8 : inR v8) {xv9 : Nat} {v9 : Int} (ev9 : xv9 = aBx v9) (rv9 : 0 ≤ v9 ∧ v9 ≤ 120) {xw0 : Int32} {w0 : Int} (ew0 : xw0 = Int32.ofInt w0) (rw0 : inR w0) (hR : RC w y g n m) : Rf (RS (fun a b => RI a.1 b.1 ∧ RoX a.2.1 b.2.1 ∧ RI a.2.2.1 b.2.2.1 ∧ RI a.2.2.2.1 b.2.2.2.1 ∧ RC w y a.2.2.2.2 b.2.2.2.2 m) (fun a b => RoX a.1 b.1 ∧ RC w y a.2 b.2 m)) (k_Layout_layFlow_146 1661 xv1 xv2 xv3 xv4 xv5 xv7 xv8 xv9 xw0 g) (nk_Layout_layFlow_146 v1 v2 v3 v4 v5 v7 v8 v9 w0 n) := by
  subst ev1
  subst ev2
  subst ev3
  subst ev4
  subst ev5
  subst ev7
  subst ev8
  subst ev9
  subst ew0
  unfold k_Layout_layFlow_146 nk_Layout_layFlow_146
  refine v_c (ce_bx hR hw rv9).1 ?_
  refine rf_bind (f_Box_isBlockInFlow hw rfl rv9 hR) (fun a4 z2 h => ?_)
  obtain ⟨rfl, r3⟩ := h
  refine rf_eq rfl (e_n 0) (inZ.r r3) (show inR 0 by decide) ?_ ?_
  · refine rf_ox (fun h6 => ?_) (fun h6 => ?_)
    · refine c_I (s := 11) hR (sK5 hR hw) rfl rfl (fun h8 => ?_)
      refine c_I (s := 15) hR (ce_bx hR hw (And.intro h6 rv4)) rfl rfl (fun h9 => ?_)
      refine rf_ck (fun h10 => ?_)
      refine p_I (s := 11) hR (sK5 hR hw) rfl ⟨rfl, rfl, by decide⟩ (e_add rfl rfl) h10 (fun g14 n12 hR13 => ?_)
      refine c_I (s := 11) hR13 (sK5 hR13 hw) rfl rfl (fun h15 => ?_)
      refine v_c (sK5 hR13 hw).1 ?_
      refine rf_bind (f_Layout_openAt hw rfl h15 hR13) (fun g19 n17 hR18 => ?_)
      exact fk_Layout_layFlow_293 hw rfl rv1 rfl rv2 ox_n (show (-1 : Int) ≤ 120 by decide) rfl rv5 rfl rw0 rfl rv7 rfl rv8 rfl rv9 hR18
    · exact fk_Layout_layFlow_293 hw rfl rv1 rfl rv2 ox_n (show (-1 : Int) ≤ 120 by decide) rfl rv5 rfl rw0 rfl rv7 rfl rv8 rfl rv9 hR
  · refine v_c (sK5 hR hw).1 ?_
    refine rf_bind (f_Layout_closeLine hw hR) (fun g24 n22 hR23 => ?_)
    refine rf_eq rfl (e_n 0) rv3 (show inR 0 by decide) ?_ ?_
    · exact fk_Layout_layFlow_175 hw rfl rv1 rfl rv2 rfl rv4 rfl rv5 rfl rw0 rfl rv7 rfl rv9 hR23
    · refine c_Z (s := 16) hR23 (ce_bx hR23 hw rv2) rfl rfl rfl (fun h26 => ?_)
      refine rf_eq rfl (e_n 0) (inZ.r h26) (show inR 0 by decide) ?_ ?_
      · exact fk_Layout_layFlow_175 hw rfl rv1 rfl rv2 rfl rv4 rfl rv5 rfl rw0 rfl rv7 rfl rv9 hR23
      · exact fk_Layout_layFlow_180 hw rfl rv1 rfl rv2 rfl rv4 rfl rv5 rfl rw0 rfl rv7 rfl rv9 (e_n 0) (show inR 0 by decide) hR23
noncomputable def nk_Layout_layFlow_94 (v1 : Int) (v2 : Int) (v3 : Int) (v4 : Int) (v5 : Int) (v6 : Int) (v7 : Int) (v8 : Int) (n : NS) : Option ((Int × Int × Int × Int × NS) ⊕ (Int × NS)) :=
  ix v8 120 <|
  ck (v7 + 1) <|
  some (.inl (v3, v4, max v6 (n 7 v8 9), v7 + 1, n))
theorem fk_Layout_layFlow_94 {w y : Prop} {g : g_S} {n : NS} {m : YS} (hw : w) {xv1 : Int32} {v1 : Int} (ev1 : xv1 = Int32.ofInt v1) (rv1 : inR v1) {xv2 : Nat} {v2 : Int} (ev2 : xv2 = aBx v2) (rv2 : 0 ≤ v2 ∧ v2 ≤ 120) {xv3 : Int32} {v3 : Int} (ev3 : xv3 = Int32.ofInt v3) (rv3 : inR v3) {xv4 : Option Nat} {v4 : Int} (ev4 : xv4 = oBx v4) (rv4 : v4 ≤ 120) {xv5 : Int32} {v5 : Int} (ev5 : xv5 = Int32.ofInt v5) (rv5 : inR v5) {xv6 : Int32} {v6 : Int} (ev6 : xv6 = Int32.ofInt v6) (rv6 : inR v6) {xv7 : Int32} {v7 : Int} (ev7 : xv7 = Int32.ofInt v7) (rv7 : inR v7) {xv8 : Int32} {v8 : Int} (ev8 : xv8 = Int32.ofInt v8) (rv8 : inR v8) (hR : RC w y g n m) : Rf (RS (fun a b => RI a.1 b.1 ∧ RoX a.2.1 b.2.1 ∧ RI a.2.2.1 b.2.2.1 ∧ RI a.2.2.2.1 b.2.2.2.1 ∧ RC w y a.2.2.2.2 b.2.2.2.2 m) (fun a b => RoX a.1 b.1 ∧ RC w y a.2 b.2 m)) (k_Layout_layFlow_94 1661 xv1 xv2 xv3 xv4 xv5 xv6 xv7 xv8 g) (nk_Layout_layFlow_94 v1 v2 v3 v4 v5 v6 v7 v8 n) := by
  subst ev1
  subst ev2
  subst ev3
  subst ev4
  subst ev5
  subst ev6
  subst ev7
  subst ev8
  unfold k_Layout_layFlow_94 nk_Layout_layFlow_94
  refine c_S hR hw (sK5 hR hw) (by decide) (show srf 5 0 0 = some 5 from rfl) ?_
  refine c_S hR hw (sK10 hR hw) (by decide) (show srf 10 0 0 = some 6 from rfl) ?_
  refine s_S (p := aNd (_)) (L := 120) hR hw (sA20 hR hw) (by decide) (lA20 hR hw) rfl rfl rv8 (fun z1 z2 => srf20 z1 z2) (fun h3 => ?_)
  refine c_I (s := 9) hR (ce_nd hR hw (And.intro h3.1 (Int.le_of_lt h3.2))) rfl rfl (fun h5 => ?_)
  refine rf_ck (fun h7 => ?_)
  exact rf_ok (by exact ⟨⟨rfl, rv3⟩, ⟨rfl, rv4⟩, ⟨(e_mx rfl rfl rv6 h5), (max_r rv6 h5)⟩, ⟨(e_add rfl (e_n 1)), h7⟩, hR⟩)
noncomputable def nb_Layout_layFlow_51 (v1 : Int) (v2 : Int) (v5 : Int) (v3 : Int) (v4 : Int) (v6 : Int) (v7 : Int) (n : NS) : Option ((Int × Int × Int × Int × NS) ⊕ (Int × NS)) :=
  if v7 < v5 then
    ix v7 120 <|
    ix (n 22 0 v7) 120 <|
    if v7 < v6 then
      nk_Layout_layFlow_94 v1 v2 v3 v4 v5 v6 v7 (n 22 0 v7) n
    else
      if (n 3 (n 22 0 v7) 0) = 0 then
        nk_Layout_layFlow_94 v1 v2 v3 v4 v5 v6 v7 (n 22 0 v7) n
      else
        if (n 3 (n 22 0 v7) 0) = 3 then
          ck (v7 + 1) <|
          nk_Layout_layFlow_146 v1 v2 v3 v4 v5 v7 (n 22 0 v7) (n 22 0 v7) (v7 + 1) n
        else
          ix (n 22 0 v7) 120 <|
          nk_Layout_layFlow_146 v1 v2 v3 v4 v5 v7 (n 22 0 v7) (n 22 0 v7) (n 7 (n 22 0 v7) 9) n
  else
    some (.inr (v4, n))
theorem fb_Layout_layFlow_51 {w y : Prop} {g : g_S} {n : NS} {m : YS} (hw : w) {xv1 : Int32} {v1 : Int} (ev1 : xv1 = Int32.ofInt v1) (rv1 : inR v1) {xv2 : Nat} {v2 : Int} (ev2 : xv2 = aBx v2) (rv2 : 0 ≤ v2 ∧ v2 ≤ 120) {xv5 : Int32} {v5 : Int} (ev5 : xv5 = Int32.ofInt v5) (rv5 : inR v5) {xv3 : Int32} {v3 : Int} (ev3 : xv3 = Int32.ofInt v3) (rv3 : inR v3) {xv4 : Option Nat} {v4 : Int} (ev4 : xv4 = oBx v4) (rv4 : v4 ≤ 120) {xv6 : Int32} {v6 : Int} (ev6 : xv6 = Int32.ofInt v6) (rv6 : inR v6) {xv7 : Int32} {v7 : Int} (ev7 : xv7 = Int32.ofInt v7) (rv7 : inR v7) (hR : RC w y g n m) : Rf (RS (fun a b => RI a.1 b.1 ∧ RoX a.2.1 b.2.1 ∧ RI a.2.2.1 b.2.2.1 ∧ RI a.2.2.2.1 b.2.2.2.1 ∧ RC w y a.2.2.2.2 b.2.2.2.2 m) (fun a b => RoX a.1 b.1 ∧ RC w y a.2 b.2 m)) (b_Layout_layFlow_51 1661 xv1 xv2 xv5 xv3 xv4 xv6 xv7 g) (nb_Layout_layFlow_51 v1 v2 v5 v3 v4 v6 v7 n) := by
  subst ev1
  subst ev2
  subst ev5
  subst ev3
  subst ev4
  subst ev6
  subst ev7
  unfold b_Layout_layFlow_51 nb_Layout_layFlow_51
  refine rf_lt rfl rfl rv7 rv5 ?_ ?_
  · refine c_S hR hw (sK5 hR hw) (by decide) (show srf 5 0 0 = some 5 from rfl) ?_
    refine c_S hR hw (sK10 hR hw) (by decide) (show srf 10 0 2 = some 8 from rfl) ?_
    refine s_I (L := 120) hR (sA22 hR hw) rfl (lA22 hR hw) rfl rfl rv7 (fun h4 h5 => ?_)
    refine c_S hR hw (sK5 hR hw) (by decide) (show srf 5 0 2 = some 1662 from rfl) ?_
    refine s_S (p := aBx (_)) (L := 120) hR hw (sA42 hR hw) (by decide) (lA42 hR hw) rfl rfl h5 (fun z1 z2 => srf42 z1 z2) (fun h7 => ?_)
    refine rf_lt rfl rfl rv7 rv6 ?_ ?_
    · exact fk_Layout_layFlow_94 hw rfl rv1 rfl rv2 rfl rv3 rfl rv4 rfl rv5 rfl rv6 rfl rv7 rfl h5 hR
    · refine c_I (s := 0) hR (ce_bx hR hw (And.intro h7.1 (Int.le_of_lt h7.2))) rfl rfl (fun h10 => ?_)
      refine rf_eq rfl (e_n 0) h10 (show inR 0 by decide) ?_ ?_
      · exact fk_Layout_layFlow_94 hw rfl rv1 rfl rv2 rfl rv3 rfl rv4 rfl rv5 rfl rv6 rfl rv7 rfl h5 hR
      · refine c_I (s := 0) hR (ce_bx hR hw (And.intro h7.1 (Int.le_of_lt h7.2))) rfl rfl (fun h12 => ?_)
        refine rf_eq rfl (e_n 3) h12 (show inR 3 by decide) ?_ ?_
        · refine rf_ck (fun h14 => ?_)
          exact fk_Layout_layFlow_146 hw rfl rv1 rfl rv2 rfl rv3 rfl rv4 rfl rv5 rfl rv7 rfl h5 rfl (And.intro h7.1 (Int.le_of_lt h7.2)) (e_add rfl (e_n 1)) h14 hR
        · refine c_S hR hw (sK5 hR hw) (by decide) (show srf 5 0 0 = some 5 from rfl) ?_
          refine c_S hR hw (sK10 hR hw) (by decide) (show srf 10 0 0 = some 6 from rfl) ?_
          refine s_S (p := aNd (_)) (L := 120) hR hw (sA20 hR hw) (by decide) (lA20 hR hw) rfl rfl h5 (fun z1 z2 => srf20 z1 z2) (fun h17 => ?_)
          refine c_I (s := 9) hR (ce_nd hR hw (And.intro h17.1 (Int.le_of_lt h17.2))) rfl rfl (fun h19 => ?_)
          exact fk_Layout_layFlow_146 hw rfl rv1 rfl rv2 rfl rv3 rfl rv4 rfl rv5 rfl rv7 rfl h5 rfl (And.intro h7.1 (Int.le_of_lt h7.2)) rfl h19 hR
  · exact rf_ok (by exact ⟨⟨rfl, rv4⟩, hR⟩)
noncomputable def NL_Layout_layFlow_51 (v1 : Int) (v2 : Int) (v5 : Int) (v3 : Int) (v4 : Int) (v6 : Int) (v7 : Int) (n : NS) : Option (Int × NS) :=
  it (fun s : Int × Int × Int × Int × NS => nb_Layout_layFlow_51 v1 v2 v5 s.1 s.2.1 s.2.2.1 s.2.2.2.1 s.2.2.2.2) (v3, v4, v6, v7, n)
theorem fL_Layout_layFlow_51 {w y : Prop} {g : g_S} {n : NS} {m : YS} (hw : w) {xv1 : Int32} {v1 : Int} (ev1 : xv1 = Int32.ofInt v1) (rv1 : inR v1) {xv2 : Nat} {v2 : Int} (ev2 : xv2 = aBx v2) (rv2 : 0 ≤ v2 ∧ v2 ≤ 120) {xv5 : Int32} {v5 : Int} (ev5 : xv5 = Int32.ofInt v5) (rv5 : inR v5) {xv3 : Int32} {v3 : Int} (ev3 : xv3 = Int32.ofInt v3) (rv3 : inR v3) {xv4 : Option Nat} {v4 : Int} (ev4 : xv4 = oBx v4) (rv4 : v4 ≤ 120) {xv6 : Int32} {v6 : Int} (ev6 : xv6 = Int32.ofInt v6) (rv6 : inR v6) {xv7 : Int32} {v7 : Int} (ev7 : xv7 = Int32.ofInt v7) (rv7 : inR v7) (hR : RC w y g n m) : Rf (fun a b => RoX a.1 b.1 ∧ RC w y a.2 b.2 m) (L_Layout_layFlow_51 1661 xv1 xv2 xv5 xv3 xv4 xv6 xv7 g) (NL_Layout_layFlow_51 v1 v2 v5 v3 v4 v6 v7 n) := by
  subst ev1
  subst ev2
  subst ev5
  subst ev3
  subst ev4
  subst ev6
  subst ev7
  unfold L_Layout_layFlow_51 NL_Layout_layFlow_51
  refine rf_it (I := (fun a b => RI a.1 b.1 ∧ RoX a.2.1 b.2.1 ∧ RI a.2.2.1 b.2.2.1 ∧ RI a.2.2.2.1 b.2.2.2.1 ∧ RC w y a.2.2.2.2 b.2.2.2.2 m)) (fun s t h => ?_) ⟨⟨rfl, rv3⟩, ⟨rfl, rv4⟩, ⟨rfl, rv6⟩, ⟨rfl, rv7⟩, hR⟩
  exact fb_Layout_layFlow_51 hw rfl rv1 rfl rv2 rfl rv5 h.1.1 h.1.2 h.2.1.1 h.2.1.2 h.2.2.1.1 h.2.2.1.2 h.2.2.2.1.1 h.2.2.2.1.2 h.2.2.2.2
theorem NL_Layout_layFlow_51_eq (v1 : Int) (v2 : Int) (v5 : Int) (v3 : Int) (v4 : Int) (v6 : Int) (v7 : Int) (n : NS) : NL_Layout_layFlow_51 v1 v2 v5 v3 v4 v6 v7 n = itc (nb_Layout_layFlow_51 v1 v2 v5 v3 v4 v6 v7 n) (fun s => NL_Layout_layFlow_51 v1 v2 v5 s.1 s.2.1 s.2.2.1 s.2.2.2.1 s.2.2.2.2) := it_eq2 (fun s : Int × Int × Int × Int × NS => nb_Layout_layFlow_51 v1 v2 v5 s.1 s.2.1 s.2.2.1 s.2.2.2.1 s.2.2.2.2) (v3, v4, v6, v7, n)
noncomputable def nk_Layout_layFlow_379 (v1 : Int) (v2 : Int) (n : NS) : Option (NS) :=
  ck ((max (n 5 0 11) (n 5 0 19)) - (n 3 v2 8)) <|
  (N_Layout_setHeight v1 v2 ((max (n 5 0 11) (n 5 0 19)) - (n 3 v2 8)) n).bind fun n7 =>
  some n7
theorem fk_Layout_layFlow_379 {w y : Prop} {g : g_S} {n : NS} {m : YS} (hw : w) {xv1 : Int32} {v1 : Int} (ev1 : xv1 = Int32.ofInt v1) (rv1 : inR v1) {xv2 : Nat} {v2 : Int} (ev2 : xv2 = aBx v2) (rv2 : 0 ≤ v2 ∧ v2 ≤ 120) (hR : RC w y g n m) : Rf (fun a b => RC w y a b m) (k_Layout_layFlow_379 1661 xv1 xv2 g) (nk_Layout_layFlow_379 v1 v2 n) := by
  subst ev1
  subst ev2
  unfold k_Layout_layFlow_379 nk_Layout_layFlow_379
  refine c_I (s := 11) hR (sK5 hR hw) rfl rfl (fun h1 => ?_)
  refine c_I (s := 19) hR (sK5 hR hw) rfl rfl (fun h2 => ?_)
  refine c_I (s := 8) hR (ce_bx hR hw rv2) rfl rfl (fun h4 => ?_)
  refine rf_ck (fun h5 => ?_)
  refine v_c (sK5 hR hw).1 ?_
  refine rf_bind (f_Layout_setHeight hw rfl rv1 rfl rv2 (e_sub (e_mx rfl rfl h1 h2) rfl) h5 hR) (fun g9 n7 hR8 => ?_)
  exact rf_ok (by exact hR8)
noncomputable def N_Layout_layFlow (v1 : Int) (n : NS) : Option (NS) :=
  ix v1 120 <|
  (N_Layout_startFlow v1 n).bind fun n5 =>
  ix v1 120 <|
  ix v1 120 <|
  ck ((n5 7 v1 8) + 1) <|
  (NL_Layout_layFlow_51 v1 v1 (n5 7 v1 9) 1 (-1) ((n5 7 v1 8) + 1) ((n5 7 v1 8) + 1) n5).bind <| u2 fun z19 n20 =>
  (N_Layout_closeLine n20).bind fun n26 =>
  if z19 < 0 then
    nk_Layout_layFlow_379 v1 v1 n26
  else
    if (n26 3 v1 17) = 0 then
      ck ((n26 5 0 11) + (n26 3 z19 15)) <|
      st (nw n26 5 0 11 ((n26 5 0 11) + (n26 3 z19 15))) fun n37 =>
      nk_Layout_layFlow_379 v1 v1 n37
    else
      nk_Layout_layFlow_379 v1 v1 n26
theorem f_Layout_layFlow {w y : Prop} {g : g_S} {n : NS} {m : YS} (hw : w) {xv1 : Int32} {v1 : Int} (ev1 : xv1 = Int32.ofInt v1) (rv1 : inR v1) (hR : RC w y g n m) : Rf (fun a b => RC w y a b m) (M_Layout_layFlow 1661 xv1 g) (N_Layout_layFlow v1 n) := by
  subst ev1
  unfold M_Layout_layFlow N_Layout_layFlow
  refine c_S hR hw (sK5 hR hw) (by decide) (show srf 5 0 2 = some 1662 from rfl) ?_
  refine s_S (p := aBx (_)) (L := 120) hR hw (sA42 hR hw) (by decide) (lA42 hR hw) rfl rfl rv1 (fun z1 z2 => srf42 z1 z2) (fun h2 => ?_)
  refine v_c (sK5 hR hw).1 ?_
  refine rf_bind (f_Layout_startFlow hw rfl (And.intro h2.1 (Int.le_of_lt h2.2)) hR) (fun g7 n5 hR6 => ?_)
  refine c_S hR6 hw (sK5 hR6 hw) (by decide) (show srf 5 0 0 = some 5 from rfl) ?_
  refine c_S hR6 hw (sK10 hR6 hw) (by decide) (show srf 10 0 0 = some 6 from rfl) ?_
  refine s_S (p := aNd (_)) (L := 120) hR6 hw (sA20 hR6 hw) (by decide) (lA20 hR6 hw) rfl rfl rv1 (fun z1 z2 => srf20 z1 z2) (fun h10 => ?_)
  refine c_I (s := 9) hR6 (ce_nd hR6 hw (And.intro h10.1 (Int.le_of_lt h10.2))) rfl rfl (fun h12 => ?_)
  refine c_S hR6 hw (sK5 hR6 hw) (by decide) (show srf 5 0 0 = some 5 from rfl) ?_
  refine c_S hR6 hw (sK10 hR6 hw) (by decide) (show srf 10 0 0 = some 6 from rfl) ?_
  refine s_S (p := aNd (_)) (L := 120) hR6 hw (sA20 hR6 hw) (by decide) (lA20 hR6 hw) rfl rfl rv1 (fun z1 z2 => srf20 z1 z2) (fun h15 => ?_)
  refine c_I (s := 8) hR6 (ce_nd hR6 hw (And.intro h15.1 (Int.le_of_lt h15.2))) rfl rfl (fun h17 => ?_)
  refine rf_ck (fun h18 => ?_)
  refine rf_bind (fL_Layout_layFlow_51 hw rfl rv1 rfl (And.intro h2.1 (Int.le_of_lt h2.2)) rfl h12 (e_n 1) (show inR 1 by decide) ox_n (show (-1 : Int) ≤ 120 by decide) (e_add rfl (e_n 1)) h18 (e_add rfl (e_n 1)) h18 hR6) (fun a b h => ?_)
  obtain ⟨a21, a22⟩ := a
  obtain ⟨z19, n20⟩ := b
  refine rf_u2 ?_
  obtain ⟨rfl, r24⟩ := (show RoX a21 z19 from h.1)
  have hR23 : RC w y a22 n20 m := h.2
  refine v_c (sK5 hR23 hw).1 ?_
  refine rf_bind (f_Layout_closeLine hw hR23) (fun g28 n26 hR27 => ?_)
  refine rf_ox (fun h29 => ?_) (fun h29 => ?_)
  · refine c_Z (s := 17) hR27 (ce_bx hR27 hw (And.intro h2.1 (Int.le_of_lt h2.2))) rfl rfl rfl (fun h31 => ?_)
    refine rf_eq rfl (e_n 0) (inZ.r h31) (show inR 0 by decide) ?_ ?_
    · refine c_I (s := 11) hR27 (sK5 hR27 hw) rfl rfl (fun h33 => ?_)
      refine c_I (s := 15) hR27 (ce_bx hR27 hw (And.intro h29 r24)) rfl rfl (fun h34 => ?_)
      refine rf_ck (fun h35 => ?_)
      refine p_I (s := 11) hR27 (sK5 hR27 hw) rfl ⟨rfl, rfl, by decide⟩ (e_add rfl rfl) h35 (fun g39 n37 hR38 => ?_)
      exact fk_Layout_layFlow_379 hw rfl rv1 rfl (And.intro h2.1 (Int.le_of_lt h2.2)) hR38
    · exact fk_Layout_layFlow_379 hw rfl rv1 rfl (And.intro h2.1 (Int.le_of_lt h2.2)) hR27
  · exact fk_Layout_layFlow_379 hw rfl rv1 rfl (And.intro h2.1 (Int.le_of_lt h2.2)) hR27
noncomputable def nb_Layout_moveToHolder_57 (v1 : Int) (v2 : Int) (v3 : Int) (n : NS) : Option ((Int × NS) ⊕ (NS)) :=
  ck ((n 3 v1 18) + (n 3 v1 19)) <|
  if v3 < ((n 3 v1 18) + (n 3 v1 19)) then
    nn (n 5 0 5) <|
    ck (v3 * 6) <|
    ck ((v3 * 6) + 3) <|
    dx n (n 5 0 5) 0 ((v3 * 6) + 3) <|
    ck ((n 99 (n 5 0 5) ((v3 * 6) + 3)) + (n 3 v2 2)) <|
    dx n (n 5 0 5) 0 ((v3 * 6) + 3) <|
    st (nw n 99 (n 5 0 5) ((v3 * 6) + 3) ((n 99 (n 5 0 5) ((v3 * 6) + 3)) + (n 3 v2 2))) fun n13 =>
    nn (n13 5 0 5) <|
    ck (v3 * 6) <|
    ck ((v3 * 6) + 4) <|
    dx n13 (n13 5 0 5) 0 ((v3 * 6) + 4) <|
    ck ((n13 99 (n13 5 0 5) ((v3 * 6) + 4)) + (n13 3 v2 3)) <|
    dx n13 (n13 5 0 5) 0 ((v3 * 6) + 4) <|
    st (nw n13 99 (n13 5 0 5) ((v3 * 6) + 4) ((n13 99 (n13 5 0 5) ((v3 * 6) + 4)) + (n13 3 v2 3))) fun n24 =>
    ck (v3 + 1) <|
    some (.inl (v3 + 1, n24))
  else
    some (.inr n)
theorem fb_Layout_moveToHolder_57 {w y : Prop} {g : g_S} {n : NS} {m : YS} (hw : w) {xv1 : Nat} {v1 : Int} (ev1 : xv1 = aBx v1) (rv1 : 0 ≤ v1 ∧ v1 ≤ 120) {xv2 : Nat} {v2 : Int} (ev2 : xv2 = aBx v2) (rv2 : 0 ≤ v2 ∧ v2 ≤ 120) {xv3 : Int32} {v3 : Int} (ev3 : xv3 = Int32.ofInt v3) (rv3 : inR v3) (hR : RC w y g n m) : Rf (RS (fun a b => RI a.1 b.1 ∧ RC w y a.2 b.2 m) (fun a b => RC w y a b m)) (b_Layout_moveToHolder_57 1661 xv1 xv2 xv3 g) (nb_Layout_moveToHolder_57 v1 v2 v3 n) := by
  subst ev1
  subst ev2
  subst ev3
  unfold b_Layout_moveToHolder_57 nb_Layout_moveToHolder_57
  refine c_I (s := 18) hR (ce_bx hR hw rv1) rfl rfl (fun h1 => ?_)
  refine c_I (s := 19) hR (ce_bx hR hw rv1) rfl rfl (fun h2 => ?_)
  refine rf_ck (fun h3 => ?_)
  refine rf_lt rfl (e_add rfl rfl) rv3 h3 ?_ ?_
  · refine c_D (s := 5) hR (sK5 hR hw) rfl rfl rfl (fun h5 => ?_)
    refine rf_ck (fun h6 => ?_)
    refine rf_ck (fun h7 => ?_)
    refine d_I hR h5 (e_add (e_mul rfl (e_n 6)) (e_n 3)) h7 (fun h8 h9 => ?_)
    refine c_I (s := 2) hR (ce_bx hR hw rv2) rfl rfl (fun h10 => ?_)
    refine rf_ck (fun h11 => ?_)
    refine e_I hR h5 (e_add (e_mul rfl (e_n 6)) (e_n 3)) h7 (e_add rfl rfl) h11 (fun g15 n13 hR14 => ?_)
    refine c_D (s := 5) hR14 (sK5 hR14 hw) rfl rfl rfl (fun h16 => ?_)
    refine rf_ck (fun h17 => ?_)
    refine rf_ck (fun h18 => ?_)
    refine d_I hR14 h16 (e_add (e_mul rfl (e_n 6)) (e_n 4)) h18 (fun h19 h20 => ?_)
    refine c_I (s := 3) hR14 (ce_bx hR14 hw rv2) rfl rfl (fun h21 => ?_)
    refine rf_ck (fun h22 => ?_)
    refine e_I hR14 h16 (e_add (e_mul rfl (e_n 6)) (e_n 4)) h18 (e_add rfl rfl) h22 (fun g26 n24 hR25 => ?_)
    refine rf_ck (fun h27 => ?_)
    exact rf_ok (by exact ⟨⟨(e_add rfl (e_n 1)), h27⟩, hR25⟩)
  · exact rf_ok (by exact hR)
noncomputable def NL_Layout_moveToHolder_57 (v1 : Int) (v2 : Int) (v3 : Int) (n : NS) : Option (NS) :=
  it (fun s : Int × NS => nb_Layout_moveToHolder_57 v1 v2 s.1 s.2) (v3, n)
theorem fL_Layout_moveToHolder_57 {w y : Prop} {g : g_S} {n : NS} {m : YS} (hw : w) {xv1 : Nat} {v1 : Int} (ev1 : xv1 = aBx v1) (rv1 : 0 ≤ v1 ∧ v1 ≤ 120) {xv2 : Nat} {v2 : Int} (ev2 : xv2 = aBx v2) (rv2 : 0 ≤ v2 ∧ v2 ≤ 120) {xv3 : Int32} {v3 : Int} (ev3 : xv3 = Int32.ofInt v3) (rv3 : inR v3) (hR : RC w y g n m) : Rf (fun a b => RC w y a b m) (L_Layout_moveToHolder_57 1661 xv1 xv2 xv3 g) (NL_Layout_moveToHolder_57 v1 v2 v3 n) := by
  subst ev1
  subst ev2
  subst ev3
  unfold L_Layout_moveToHolder_57 NL_Layout_moveToHolder_57
  refine rf_it (I := (fun a b => RI a.1 b.1 ∧ RC w y a.2 b.2 m)) (fun s t h => ?_) ⟨⟨rfl, rv3⟩, hR⟩
  exact fb_Layout_moveToHolder_57 hw rfl rv1 rfl rv2 h.1.1 h.1.2 h.2
theorem NL_Layout_moveToHolder_57_eq (v1 : Int) (v2 : Int) (v3 : Int) (n : NS) : NL_Layout_moveToHolder_57 v1 v2 v3 n = itc (nb_Layout_moveToHolder_57 v1 v2 v3 n) (fun s => NL_Layout_moveToHolder_57 v1 v2 s.1 s.2) := it_eq2 (fun s : Int × NS => nb_Layout_moveToHolder_57 v1 v2 s.1 s.2) (v3, n)
noncomputable def N_Layout_moveToHolder (v1 : Int) (n : NS) : Option (NS) :=
  if (n 3 v1 0) = 0 then
    some n
  else
    if (n 3 v1 1) = (-1) then
      some n
    else
      ix (n 3 v1 1) 120 <|
      ck ((n 3 v1 2) + (n 3 (n 3 v1 1) 2)) <|
      st (nw n 3 v1 2 ((n 3 v1 2) + (n 3 (n 3 v1 1) 2))) fun n15 =>
      ck ((n15 3 v1 3) + (n15 3 (n 3 v1 1) 3)) <|
      st (nw n15 3 v1 3 ((n15 3 v1 3) + (n15 3 (n 3 v1 1) 3))) fun n22 =>
      (NL_Layout_moveToHolder_57 v1 (n 3 v1 1) (n22 3 v1 18) n22).bind <| fun n26 =>
      some n26
theorem f_Layout_moveToHolder {w y : Prop} {g : g_S} {n : NS} {m : YS} (hw : w) {xv1 : Nat} {v1 : Int} (ev1 : xv1 = aBx v1) (rv1 : 0 ≤ v1 ∧ v1 ≤ 120) (hR : RC w y g n m) : Rf (fun a b => RC w y a b m) (M_Layout_moveToHolder 1661 xv1 g) (N_Layout_moveToHolder v1 n) := by
  subst ev1
  unfold M_Layout_moveToHolder N_Layout_moveToHolder
  refine c_I (s := 0) hR (ce_bx hR hw rv1) rfl rfl (fun h1 => ?_)
  refine rf_eq rfl (e_n 0) h1 (show inR 0 by decide) ?_ ?_
  · exact rf_ok (by exact hR)
  · refine c_I (s := 1) hR (ce_bx hR hw rv1) rfl rfl (fun h4 => ?_)
    refine rf_eq rfl (e_m 1) h4 (show inR (-1) by decide) ?_ ?_
    · exact rf_ok (by exact hR)
    · refine c_S hR hw (sK5 hR hw) (by decide) (show srf 5 0 2 = some 1662 from rfl) ?_
      refine c_I (s := 1) hR (ce_bx hR hw rv1) rfl rfl (fun h8 => ?_)
      refine s_S (p := aBx (_)) (L := 120) hR hw (sA42 hR hw) (by decide) (lA42 hR hw) rfl rfl h8 (fun z1 z2 => srf42 z1 z2) (fun h9 => ?_)
      refine c_I (s := 2) hR (ce_bx hR hw rv1) rfl rfl (fun h11 => ?_)
      refine c_I (s := 2) hR (ce_bx hR hw (And.intro h9.1 (Int.le_of_lt h9.2))) rfl rfl (fun h12 => ?_)
      refine rf_ck (fun h13 => ?_)
      refine p_I (s := 2) hR (ce_bx hR hw rv1) rfl ⟨rfl, rfl, by decide⟩ (e_add rfl rfl) h13 (fun g17 n15 hR16 => ?_)
      refine c_I (s := 3) hR16 (ce_bx hR16 hw rv1) rfl rfl (fun h18 => ?_)
      refine c_I (s := 3) hR16 (ce_bx hR16 hw (And.intro h9.1 (Int.le_of_lt h9.2))) rfl rfl (fun h19 => ?_)
      refine rf_ck (fun h20 => ?_)
      refine p_I (s := 3) hR16 (ce_bx hR16 hw rv1) rfl ⟨rfl, rfl, by decide⟩ (e_add rfl rfl) h20 (fun g24 n22 hR23 => ?_)
      refine c_I (s := 18) hR23 (ce_bx hR23 hw rv1) rfl rfl (fun h25 => ?_)
      refine rf_bind (fL_Layout_moveToHolder_57 hw rfl rv1 rfl (And.intro h9.1 (Int.le_of_lt h9.2)) rfl h25 hR23) (fun a27 n26 h => ?_)
      have hR28 : RC w y a27 n26 m := h
      exact rf_ok (by exact hR28)
noncomputable def nb_Layout_refresh_40 (v1 : Int) (n : NS) : Option ((Int × NS) ⊕ (NS)) :=
  if v1 < (n 10 0 3) then
    ix v1 120 <|
    (N_Layout_measure (n 22 0 v1) n).bind fun n9 =>
    ck (v1 + 1) <|
    some (.inl (v1 + 1, n9))
  else
    some (.inr n)
theorem fb_Layout_refresh_40 {w y : Prop} {g : g_S} {n : NS} {m : YS} (hw : w) {xv1 : Int32} {v1 : Int} (ev1 : xv1 = Int32.ofInt v1) (rv1 : inR v1) (hR : RC w y g n m) : Rf (RS (fun a b => RI a.1 b.1 ∧ RC w y a.2 b.2 m) (fun a b => RC w y a b m)) (b_Layout_refresh_40 1661 xv1 g) (nb_Layout_refresh_40 v1 n) := by
  subst ev1
  unfold b_Layout_refresh_40 nb_Layout_refresh_40
  refine c_S hR hw (sK5 hR hw) (by decide) (show srf 5 0 0 = some 5 from rfl) ?_
  refine c_I (s := 3) hR (sK10 hR hw) rfl rfl (fun h2 => ?_)
  refine rf_lt rfl rfl rv1 h2 ?_ ?_
  · refine c_S hR hw (sK5 hR hw) (by decide) (show srf 5 0 0 = some 5 from rfl) ?_
    refine c_S hR hw (sK10 hR hw) (by decide) (show srf 10 0 2 = some 8 from rfl) ?_
    refine s_I (L := 120) hR (sA22 hR hw) rfl (lA22 hR hw) rfl rfl rv1 (fun h6 h7 => ?_)
    refine v_c (sK5 hR hw).1 ?_
    refine rf_bind (f_Layout_measure hw rfl h7 hR) (fun g11 n9 hR10 => ?_)
    refine rf_ck (fun h12 => ?_)
    exact rf_ok (by exact ⟨⟨(e_add rfl (e_n 1)), h12⟩, hR10⟩)
  · exact rf_ok (by exact hR)
noncomputable def NL_Layout_refresh_40 (v1 : Int) (n : NS) : Option (NS) :=
  it (fun s : Int × NS => nb_Layout_refresh_40 s.1 s.2) (v1, n)
theorem fL_Layout_refresh_40 {w y : Prop} {g : g_S} {n : NS} {m : YS} (hw : w) {xv1 : Int32} {v1 : Int} (ev1 : xv1 = Int32.ofInt v1) (rv1 : inR v1) (hR : RC w y g n m) : Rf (fun a b => RC w y a b m) (L_Layout_refresh_40 1661 xv1 g) (NL_Layout_refresh_40 v1 n) := by
  subst ev1
  unfold L_Layout_refresh_40 NL_Layout_refresh_40
  refine rf_it (I := (fun a b => RI a.1 b.1 ∧ RC w y a.2 b.2 m)) (fun s t h => ?_) ⟨⟨rfl, rv1⟩, hR⟩
  exact fb_Layout_refresh_40 hw h.1.1 h.1.2 h.2
theorem NL_Layout_refresh_40_eq (v1 : Int) (n : NS) : NL_Layout_refresh_40 v1 n = itc (nb_Layout_refresh_40 v1 n) (fun s => NL_Layout_refresh_40 s.1 s.2) := it_eq2 (fun s : Int × NS => nb_Layout_refresh_40 s.1 s.2) (v1, n)
noncomputable def nb_Layout_refresh_143 (v1 : Int) (n : NS) : Option ((Int × NS) ⊕ (NS)) :=
  if v1 < (n 10 0 3) then
    ix v1 120 <|
    ix (n 22 0 v1) 120 <|
    (N_Layout_moveToHolder (n 22 0 v1) n).bind fun n12 =>
    ck (v1 + 1) <|
    some (.inl (v1 + 1, n12))
  else
    some (.inr n)
theorem fb_Layout_refresh_143 {w y : Prop} {g : g_S} {n : NS} {m : YS} (hw : w) {xv1 : Int32} {v1 : Int} (ev1 : xv1 = Int32.ofInt v1) (rv1 : inR v1) (hR : RC w y g n m) : Rf (RS (fun a b => RI a.1 b.1 ∧ RC w y a.2 b.2 m) (fun a b => RC w y a b m)) (b_Layout_refresh_143 1661 xv1 g) (nb_Layout_refresh_143 v1 n) := by
  subst ev1
  unfold b_Layout_refresh_143 nb_Layout_refresh_143
  refine c_S hR hw (sK5 hR hw) (by decide) (show srf 5 0 0 = some 5 from rfl) ?_
  refine c_I (s := 3) hR (sK10 hR hw) rfl rfl (fun h2 => ?_)
  refine rf_lt rfl rfl rv1 h2 ?_ ?_
  · refine c_S hR hw (sK5 hR hw) (by decide) (show srf 5 0 2 = some 1662 from rfl) ?_
    refine c_S hR hw (sK5 hR hw) (by decide) (show srf 5 0 0 = some 5 from rfl) ?_
    refine c_S hR hw (sK10 hR hw) (by decide) (show srf 10 0 2 = some 8 from rfl) ?_
    refine s_I (L := 120) hR (sA22 hR hw) rfl (lA22 hR hw) rfl rfl rv1 (fun h7 h8 => ?_)
    refine s_S (p := aBx (_)) (L := 120) hR hw (sA42 hR hw) (by decide) (lA42 hR hw) rfl rfl h8 (fun z1 z2 => srf42 z1 z2) (fun h9 => ?_)
    refine v_c (sK5 hR hw).1 ?_
    refine rf_bind (f_Layout_moveToHolder hw rfl (And.intro h9.1 (Int.le_of_lt h9.2)) hR) (fun g14 n12 hR13 => ?_)
    refine rf_ck (fun h15 => ?_)
    exact rf_ok (by exact ⟨⟨(e_add rfl (e_n 1)), h15⟩, hR13⟩)
  · exact rf_ok (by exact hR)
noncomputable def NL_Layout_refresh_143 (v1 : Int) (n : NS) : Option (NS) :=
  it (fun s : Int × NS => nb_Layout_refresh_143 s.1 s.2) (v1, n)
theorem fL_Layout_refresh_143 {w y : Prop} {g : g_S} {n : NS} {m : YS} (hw : w) {xv1 : Int32} {v1 : Int} (ev1 : xv1 = Int32.ofInt v1) (rv1 : inR v1) (hR : RC w y g n m) : Rf (fun a b => RC w y a b m) (L_Layout_refresh_143 1661 xv1 g) (NL_Layout_refresh_143 v1 n) := by
  subst ev1
  unfold L_Layout_refresh_143 NL_Layout_refresh_143
  refine rf_it (I := (fun a b => RI a.1 b.1 ∧ RC w y a.2 b.2 m)) (fun s t h => ?_) ⟨⟨rfl, rv1⟩, hR⟩
  exact fb_Layout_refresh_143 hw h.1.1 h.1.2 h.2
theorem NL_Layout_refresh_143_eq (v1 : Int) (n : NS) : NL_Layout_refresh_143 v1 n = itc (nb_Layout_refresh_143 v1 n) (fun s => NL_Layout_refresh_143 s.1 s.2) := it_eq2 (fun s : Int × NS => nb_Layout_refresh_143 s.1 s.2) (v1, n)
noncomputable def nb_Layout_refresh_80 (v1 : Int) (n : NS) : Option ((Int × NS) ⊕ (NS)) :=
  if v1 < 0 then
    some (.inr n)
  else
    ix v1 120 <|
    ix (n 22 0 v1) 120 <|
    if (n 3 (n 22 0 v1) 0) = 1 then
      (N_Layout_joinMargins (n 22 0 v1) n).bind fun n12 =>
      (N_Layout_look (n 22 0 v1) 0 n12).bind fun z16 =>
      if z16 = 3 then
        (N_Layout_layFlex (n 22 0 v1) n12).bind fun n21 =>
        ck (v1 + (-1)) <|
        some (.inl (v1 + (-1), n21))
      else
        (N_Layout_layFlow (n 22 0 v1) n12).bind fun n26 =>
        ck (v1 + (-1)) <|
        some (.inl (v1 + (-1), n26))
    else
      ck (v1 + (-1)) <|
      some (.inl (v1 + (-1), n))
theorem fb_Layout_refresh_80 {w y : Prop} {g : g_S} {n : NS} {m : YS} (hw : w) {xv1 : Int32} {v1 : Int} (ev1 : xv1 = Int32.ofInt v1) (rv1 : inR v1) (hR : RC w y g n m) : Rf (RS (fun a b => RI a.1 b.1 ∧ RC w y a.2 b.2 m) (fun a b => RC w y a b m)) (b_Layout_refresh_80 1661 xv1 g) (nb_Layout_refresh_80 v1 n) := by
  subst ev1
  unfold b_Layout_refresh_80 nb_Layout_refresh_80
  refine rf_lt rfl (e_n 0) rv1 (show inR 0 by decide) ?_ ?_
  · exact rf_ok (by exact hR)
  · refine c_S hR hw (sK5 hR hw) (by decide) (show srf 5 0 0 = some 5 from rfl) ?_
    refine c_S hR hw (sK10 hR hw) (by decide) (show srf 10 0 2 = some 8 from rfl) ?_
    refine s_I (L := 120) hR (sA22 hR hw) rfl (lA22 hR hw) rfl rfl rv1 (fun h4 h5 => ?_)
    refine c_S hR hw (sK5 hR hw) (by decide) (show srf 5 0 2 = some 1662 from rfl) ?_
    refine s_S (p := aBx (_)) (L := 120) hR hw (sA42 hR hw) (by decide) (lA42 hR hw) rfl rfl h5 (fun z1 z2 => srf42 z1 z2) (fun h7 => ?_)
    refine c_I (s := 0) hR (ce_bx hR hw (And.intro h7.1 (Int.le_of_lt h7.2))) rfl rfl (fun h9 => ?_)
    refine rf_eq rfl (e_n 1) h9 (show inR 1 by decide) ?_ ?_
    · refine v_c (sK5 hR hw).1 ?_
      refine rf_bind (f_Layout_joinMargins hw rfl h5 hR) (fun g14 n12 hR13 => ?_)
      refine v_c (sK5 hR13 hw).1 ?_
      refine rf_bind (f_Layout_look hw rfl h5 (e_n 0) (show inR 0 by decide) hR13) (fun a18 z16 h => ?_)
      obtain ⟨rfl, r17⟩ := h
      refine rf_eq rfl (e_n 3) r17 (show inR 3 by decide) ?_ ?_
      · refine v_c (sK5 hR13 hw).1 ?_
        refine rf_bind (f_Layout_layFlex hw rfl h5 hR13) (fun g23 n21 hR22 => ?_)
        refine rf_ck (fun h24 => ?_)
        exact rf_ok (by exact ⟨⟨(e_add rfl (e_m 1)), h24⟩, hR22⟩)
      · refine v_c (sK5 hR13 hw).1 ?_
        refine rf_bind (f_Layout_layFlow hw rfl h5 hR13) (fun g28 n26 hR27 => ?_)
        refine rf_ck (fun h29 => ?_)
        exact rf_ok (by exact ⟨⟨(e_add rfl (e_m 1)), h29⟩, hR27⟩)
    · refine rf_ck (fun h30 => ?_)
      exact rf_ok (by exact ⟨⟨(e_add rfl (e_m 1)), h30⟩, hR⟩)
noncomputable def NL_Layout_refresh_80 (v1 : Int) (n : NS) : Option (NS) :=
  it (fun s : Int × NS => nb_Layout_refresh_80 s.1 s.2) (v1, n)
theorem fL_Layout_refresh_80 {w y : Prop} {g : g_S} {n : NS} {m : YS} (hw : w) {xv1 : Int32} {v1 : Int} (ev1 : xv1 = Int32.ofInt v1) (rv1 : inR v1) (hR : RC w y g n m) : Rf (fun a b => RC w y a b m) (L_Layout_refresh_80 1661 xv1 g) (NL_Layout_refresh_80 v1 n) := by
  subst ev1
  unfold L_Layout_refresh_80 NL_Layout_refresh_80
  refine rf_it (I := (fun a b => RI a.1 b.1 ∧ RC w y a.2 b.2 m)) (fun s t h => ?_) ⟨⟨rfl, rv1⟩, hR⟩
  exact fb_Layout_refresh_80 hw h.1.1 h.1.2 h.2
theorem NL_Layout_refresh_80_eq (v1 : Int) (n : NS) : NL_Layout_refresh_80 v1 n = itc (nb_Layout_refresh_80 v1 n) (fun s => NL_Layout_refresh_80 s.1 s.2) := it_eq2 (fun s : Int × NS => nb_Layout_refresh_80 s.1 s.2) (v1, n)
noncomputable def N_Layout_refresh (n : NS) : Option (NS) :=
  if (n 5 0 4) = (n 10 0 6) then
    some n
  else
    st (nw n 5 0 4 (n 10 0 6)) fun n9 =>
    st (nw n9 5 0 6 0) fun n13 =>
    (N_Tree_list n13).bind fun n18 =>
    (NL_Layout_refresh_40 0 n18).bind <| fun n21 =>
    ck ((n21 10 0 3) - 1) <|
    (NL_Layout_refresh_80 ((n21 10 0 3) - 1) n21).bind <| fun n27 =>
    (NL_Layout_refresh_143 1 n27).bind <| fun n30 =>
    some n30
theorem f_Layout_refresh {w y : Prop} {g : g_S} {n : NS} {m : YS} (hw : w) (hR : RC w y g n m) : Rf (fun a b => RC w y a b m) (M_Layout_refresh 1661 g) (N_Layout_refresh n) := by
  unfold M_Layout_refresh N_Layout_refresh
  refine c_I (s := 4) hR (sK5 hR hw) rfl rfl (fun h1 => ?_)
  refine c_S hR hw (sK5 hR hw) (by decide) (show srf 5 0 0 = some 5 from rfl) ?_
  refine c_I (s := 6) hR (sK10 hR hw) rfl rfl (fun h3 => ?_)
  refine rf_eq rfl rfl h1 h3 ?_ ?_
  · exact rf_ok (by exact hR)
  · refine c_S hR hw (sK5 hR hw) (by decide) (show srf 5 0 0 = some 5 from rfl) ?_
    refine c_I (s := 6) hR (sK10 hR hw) rfl rfl (fun h7 => ?_)
    refine p_I (s := 4) hR (sK5 hR hw) rfl ⟨rfl, rfl, by decide⟩ rfl h7 (fun g11 n9 hR10 => ?_)
    refine p_I (s := 6) hR10 (sK5 hR10 hw) rfl ⟨rfl, rfl, by decide⟩ (e_n 0) (show inR 0 by decide) (fun g15 n13 hR14 => ?_)
    refine c_S hR14 hw (sK5 hR14 hw) (by decide) (show srf 5 0 0 = some 5 from rfl) ?_
    refine v_c (sK10 hR14 hw).1 ?_
    refine rf_bind (f_Tree_list hw hR14) (fun g20 n18 hR19 => ?_)
    refine rf_bind (fL_Layout_refresh_40 hw (e_n 0) (show inR 0 by decide) hR19) (fun a22 n21 h => ?_)
    have hR23 : RC w y a22 n21 m := h
    refine c_S hR23 hw (sK5 hR23 hw) (by decide) (show srf 5 0 0 = some 5 from rfl) ?_
    refine c_I (s := 3) hR23 (sK10 hR23 hw) rfl rfl (fun h25 => ?_)
    refine rf_ck (fun h26 => ?_)
    refine rf_bind (fL_Layout_refresh_80 hw (e_sub rfl (e_n 1)) h26 hR23) (fun a28 n27 h => ?_)
    have hR29 : RC w y a28 n27 m := h
    refine rf_bind (fL_Layout_refresh_143 hw (e_n 1) (show inR 1 by decide) hR29) (fun a31 n30 h => ?_)
    have hR32 : RC w y a31 n30 m := h
    exact rf_ok (by exact hR32)
noncomputable def N_Box_isPainted (v0 : Int) (n : NS) : Option (Int) :=
  if (n 3 v0 0) = 1 then
    some 1
  else
    if (n 3 v0 0) = 2 then
      some 1
    else
      some 0
theorem f_Box_isPainted {w y : Prop} {g : g_S} {n : NS} {m : YS} (hw : w) {xv0 : Nat} {v0 : Int} (ev0 : xv0 = aBx v0) (rv0 : 0 ≤ v0 ∧ v0 ≤ 120) (hR : RC w y g n m) : Rf (fun a b => RZ a b) (M_Box_isPainted xv0 g) (N_Box_isPainted v0 n) := by
  subst ev0
  unfold M_Box_isPainted N_Box_isPainted
  refine c_I (s := 0) hR (ce_bx hR hw rv0) rfl rfl (fun h1 => ?_)
  refine rf_eq rfl (e_n 1) h1 (show inR 1 by decide) ?_ ?_
  · exact rf_ok (by exact ⟨(e_n 1), (.inr rfl)⟩)
  · refine c_I (s := 0) hR (ce_bx hR hw rv0) rfl rfl (fun h4 => ?_)
    refine rf_eq rfl (e_n 2) h4 (show inR 2 by decide) ?_ ?_
    · exact rf_ok (by exact ⟨(e_n 1), (.inr rfl)⟩)
    · exact rf_ok (by exact ⟨(e_n 0), (.inl rfl)⟩)
noncomputable def N_H_box (v1 : Int) (v2 : Int) (n : NS) : Option (Int × NS) :=
  (N_H_isElement v1 n).bind fun z2 =>
  if z2 = 0 then
    some ((-1000), n)
  else
    (N_Sheet_refresh n).bind fun n9 =>
    (N_Layout_refresh n9).bind fun n14 =>
    ix v1 120 <|
    (N_Box_isPainted v1 n14).bind fun z22 =>
    if z22 = 0 then
      some ((-1000), n14)
    else
      if v2 = 0 then
        some ((n14 3 v1 2), n14)
      else if v2 = 1 then
        some ((n14 3 v1 3), n14)
      else if v2 = 2 then
        some ((n14 3 v1 4), n14)
      else if v2 = 3 then
        some ((n14 3 v1 5), n14)
      else
        some ((-1000), n14)
theorem f_H_box {w y : Prop} {g : g_S} {n : NS} {m : YS} (hw : w) {xv1 : Int32} {v1 : Int} (ev1 : xv1 = Int32.ofInt v1) (rv1 : inR v1) {xv2 : Int32} {v2 : Int} (ev2 : xv2 = Int32.ofInt v2) (rv2 : inR v2) (hR : RC w y g n m) : Rf (fun a b => RI a.1 b.1 ∧ RC w y a.2 b.2 m) (M_H_box 0 xv1 xv2 g) (N_H_box v1 v2 n) := by
  subst ev1
  subst ev2
  unfold M_H_box N_H_box
  refine v_c (sK11 hR hw).1 ?_
  refine rf_bind (f_H_isElement hw rfl rv1 hR) (fun a4 z2 h => ?_)
  obtain ⟨rfl, r3⟩ := h
  refine rf_eq rfl (e_n 0) (inZ.r r3) (show inR 0 by decide) ?_ ?_
  · exact rf_ok (by exact ⟨⟨(e_m 1000), (show inR (-1000) by decide)⟩, hR⟩)
  · refine c_S hR hw (sK11 hR hw) (by decide) (show srf 11 0 5 = some 1650 from rfl) ?_
    refine v_c (sK9 hR hw).1 ?_
    refine rf_bind (f_Sheet_refresh hw hR) (fun g11 n9 hR10 => ?_)
    refine c_S hR10 hw (sK11 hR10 hw) (by decide) (show srf 11 0 6 = some 1661 from rfl) ?_
    refine v_c (sK5 hR10 hw).1 ?_
    refine rf_bind (f_Layout_refresh hw hR10) (fun g16 n14 hR15 => ?_)
    refine c_S hR15 hw (sK11 hR15 hw) (by decide) (show srf 11 0 6 = some 1661 from rfl) ?_
    refine c_S hR15 hw (sK5 hR15 hw) (by decide) (show srf 5 0 2 = some 1662 from rfl) ?_
    refine s_S (p := aBx (_)) (L := 120) hR15 hw (sA42 hR15 hw) (by decide) (lA42 hR15 hw) rfl rfl rv1 (fun z1 z2 => srf42 z1 z2) (fun h19 => ?_)
    refine v_c (ce_bx hR15 hw (And.intro h19.1 (Int.le_of_lt h19.2))).1 ?_
    refine rf_bind (f_Box_isPainted hw rfl (And.intro h19.1 (Int.le_of_lt h19.2)) hR15) (fun a24 z22 h => ?_)
    obtain ⟨rfl, r23⟩ := h
    refine rf_eq rfl (e_n 0) (inZ.r r23) (show inR 0 by decide) ?_ ?_
    · exact rf_ok (by exact ⟨⟨(e_m 1000), (show inR (-1000) by decide)⟩, hR15⟩)
    · refine rf_eq rfl (e_n 0) rv2 (show inR 0 by decide) ?_ ?_
      · refine c_I (s := 2) hR15 (ce_bx hR15 hw (And.intro h19.1 (Int.le_of_lt h19.2))) rfl rfl (fun h28 => ?_)
        exact rf_ok (by exact ⟨⟨rfl, h28⟩, hR15⟩)
      refine rf_eq rfl (e_n 1) rv2 (show inR 1 by decide) ?_ ?_
      · refine c_I (s := 3) hR15 (ce_bx hR15 hw (And.intro h19.1 (Int.le_of_lt h19.2))) rfl rfl (fun h30 => ?_)
        exact rf_ok (by exact ⟨⟨rfl, h30⟩, hR15⟩)
      refine rf_eq rfl (e_n 2) rv2 (show inR 2 by decide) ?_ ?_
      · refine c_I (s := 4) hR15 (ce_bx hR15 hw (And.intro h19.1 (Int.le_of_lt h19.2))) rfl rfl (fun h32 => ?_)
        exact rf_ok (by exact ⟨⟨rfl, h32⟩, hR15⟩)
      refine rf_eq rfl (e_n 3) rv2 (show inR 3 by decide) ?_ ?_
      · refine c_I (s := 5) hR15 (ce_bx hR15 hw (And.intro h19.1 (Int.le_of_lt h19.2))) rfl rfl (fun h34 => ?_)
        exact rf_ok (by exact ⟨⟨rfl, h34⟩, hR15⟩)
      exact rf_ok (by exact ⟨⟨(e_m 1000), (show inR (-1000) by decide)⟩, hR15⟩)
noncomputable def N_H_word (v1 : Int) (v2 : Int) (n : NS) : Option (Int × NS) :=
  (N_Sheet_refresh n).bind fun n3 =>
  (N_Layout_refresh n3).bind fun n8 =>
  if v1 < 0 then
    some ((-1000), n8)
  else
    if v1 < (n8 5 0 6) then
      if v2 < 0 then
        some ((-1000), n8)
      else
        if 6 < v2 then
          some ((-1000), n8)
        else
          if v2 = 6 then
            (N_Layout_wordHeight v1 n8).bind fun z23 =>
            some (z23, n8)
          else
            nn (n8 5 0 5) <|
            ck (v1 * 6) <|
            ck ((v1 * 6) + v2) <|
            dx n8 (n8 5 0 5) 0 ((v1 * 6) + v2) <|
            some ((n8 99 (n8 5 0 5) ((v1 * 6) + v2)), n8)
    else
      some ((-1000), n8)
theorem f_H_word {w y : Prop} {g : g_S} {n : NS} {m : YS} (hw : w) {xv1 : Int32} {v1 : Int} (ev1 : xv1 = Int32.ofInt v1) (rv1 : inR v1) {xv2 : Int32} {v2 : Int} (ev2 : xv2 = Int32.ofInt v2) (rv2 : inR v2) (hR : RC w y g n m) : Rf (fun a b => RI a.1 b.1 ∧ RC w y a.2 b.2 m) (M_H_word 0 xv1 xv2 g) (N_H_word v1 v2 n) := by
  subst ev1
  subst ev2
  unfold M_H_word N_H_word
  refine c_S hR hw (sK11 hR hw) (by decide) (show srf 11 0 5 = some 1650 from rfl) ?_
  refine v_c (sK9 hR hw).1 ?_
  refine rf_bind (f_Sheet_refresh hw hR) (fun g5 n3 hR4 => ?_)
  refine c_S hR4 hw (sK11 hR4 hw) (by decide) (show srf 11 0 6 = some 1661 from rfl) ?_
  refine v_c (sK5 hR4 hw).1 ?_
  refine rf_bind (f_Layout_refresh hw hR4) (fun g10 n8 hR9 => ?_)
  refine rf_lt rfl (e_n 0) rv1 (show inR 0 by decide) ?_ ?_
  · exact rf_ok (by exact ⟨⟨(e_m 1000), (show inR (-1000) by decide)⟩, hR9⟩)
  · refine c_S hR9 hw (sK11 hR9 hw) (by decide) (show srf 11 0 6 = some 1661 from rfl) ?_
    refine c_I (s := 6) hR9 (sK5 hR9 hw) rfl rfl (fun h14 => ?_)
    refine rf_lt rfl rfl rv1 h14 ?_ ?_
    · refine rf_lt rfl (e_n 0) rv2 (show inR 0 by decide) ?_ ?_
      · exact rf_ok (by exact ⟨⟨(e_m 1000), (show inR (-1000) by decide)⟩, hR9⟩)
      · refine rf_lt (e_n 6) rfl (show inR 6 by decide) rv2 ?_ ?_
        · exact rf_ok (by exact ⟨⟨(e_m 1000), (show inR (-1000) by decide)⟩, hR9⟩)
        · refine rf_eq rfl (e_n 6) rv2 (show inR 6 by decide) ?_ ?_
          · refine c_S hR9 hw (sK11 hR9 hw) (by decide) (show srf 11 0 6 = some 1661 from rfl) ?_
            refine v_c (sK5 hR9 hw).1 ?_
            refine rf_bind (f_Layout_wordHeight hw rfl rv1 hR9) (fun a25 z23 h => ?_)
            obtain ⟨rfl, r24⟩ := h
            exact rf_ok (by exact ⟨⟨rfl, r24⟩, hR9⟩)
          · refine c_S hR9 hw (sK11 hR9 hw) (by decide) (show srf 11 0 6 = some 1661 from rfl) ?_
            refine c_D (s := 5) hR9 (sK5 hR9 hw) rfl rfl rfl (fun h28 => ?_)
            refine rf_ck (fun h29 => ?_)
            refine rf_ck (fun h30 => ?_)
            refine d_I hR9 h28 (e_add (e_mul rfl (e_n 6)) rfl) h30 (fun h31 h32 => ?_)
            exact rf_ok (by exact ⟨⟨rfl, h32⟩, hR9⟩)
    · exact rf_ok (by exact ⟨⟨(e_m 1000), (show inR (-1000) by decide)⟩, hR9⟩)
noncomputable def N_Layout_pictureHeight (n : NS) : Option (Int) :=
  ix 0 120 <|
  some (min (n 3 0 5) 400)
theorem f_Layout_pictureHeight {w y : Prop} {g : g_S} {n : NS} {m : YS} (hw : w) (hR : RC w y g n m) : Rf (fun a b => RI a b) (M_Layout_pictureHeight 1661 g) (N_Layout_pictureHeight n) := by
  unfold M_Layout_pictureHeight N_Layout_pictureHeight
  refine c_S hR hw (sK5 hR hw) (by decide) (show srf 5 0 2 = some 1662 from rfl) ?_
  refine s_S (p := aBx (_)) (L := 120) hR hw (sA42 hR hw) (by decide) (lA42 hR hw) rfl (e_n 0) (show inR 0 by decide) (fun z1 z2 => srf42 z1 z2) (fun h2 => ?_)
  refine c_I (s := 5) hR (ce_bx hR hw (And.intro h2.1 (Int.le_of_lt h2.2))) rfl rfl (fun h4 => ?_)
  exact rf_ok (by exact ⟨(e_mn rfl (e_n 400) h4 (show inR 400 by decide)), (min_r h4 (show inR 400 by decide))⟩)
noncomputable def N_Layout_isInPicture (v1 : Int) (v2 : Int) (n : NS) : Option (Int) :=
  if v1 < 0 then
    some 0
  else
    if v1 < (n 5 0 3) then
      if v2 < 0 then
        some 0
      else
        (N_Layout_pictureHeight n).bind fun z8 =>
        if v2 < z8 then
          some 1
        else
          some 0
    else
      some 0
theorem f_Layout_isInPicture {w y : Prop} {g : g_S} {n : NS} {m : YS} (hw : w) {xv1 : Int32} {v1 : Int} (ev1 : xv1 = Int32.ofInt v1) (rv1 : inR v1) {xv2 : Int32} {v2 : Int} (ev2 : xv2 = Int32.ofInt v2) (rv2 : inR v2) (hR : RC w y g n m) : Rf (fun a b => RZ a b) (M_Layout_isInPicture 1661 xv1 xv2 g) (N_Layout_isInPicture v1 v2 n) := by
  subst ev1
  subst ev2
  unfold M_Layout_isInPicture N_Layout_isInPicture
  refine rf_lt rfl (e_n 0) rv1 (show inR 0 by decide) ?_ ?_
  · exact rf_ok (by exact ⟨(e_n 0), (.inl rfl)⟩)
  · refine c_I (s := 3) hR (sK5 hR hw) rfl rfl (fun h3 => ?_)
    refine rf_lt rfl rfl rv1 h3 ?_ ?_
    · refine rf_lt rfl (e_n 0) rv2 (show inR 0 by decide) ?_ ?_
      · exact rf_ok (by exact ⟨(e_n 0), (.inl rfl)⟩)
      · refine v_c (sK5 hR hw).1 ?_
        refine rf_bind (f_Layout_pictureHeight hw hR) (fun a10 z8 h => ?_)
        obtain ⟨rfl, r9⟩ := h
        refine rf_lt rfl rfl rv2 r9 ?_ ?_
        · exact rf_ok (by exact ⟨(e_n 1), (.inr rfl)⟩)
        · exact rf_ok (by exact ⟨(e_n 0), (.inl rfl)⟩)
    · exact rf_ok (by exact ⟨(e_n 0), (.inl rfl)⟩)
noncomputable def N_Box_holds (v0 : Int) (v1 : Int) (v2 : Int) (v3 : Int) (n : NS) : Option (Int) :=
  ck ((n 3 v0 2) + v3) <|
  if v1 < ((n 3 v0 2) + v3) then
    some 0
  else
    ck ((n 3 v0 2) + (n 3 v0 4)) <|
    ck (((n 3 v0 2) + (n 3 v0 4)) - v3) <|
    if v1 < (((n 3 v0 2) + (n 3 v0 4)) - v3) then
      ck ((n 3 v0 3) + v3) <|
      if v2 < ((n 3 v0 3) + v3) then
        some 0
      else
        ck ((n 3 v0 3) + (n 3 v0 5)) <|
        ck (((n 3 v0 3) + (n 3 v0 5)) - v3) <|
        if v2 < (((n 3 v0 3) + (n 3 v0 5)) - v3) then
          some 1
        else
          some 0
    else
      some 0
theorem f_Box_holds {w y : Prop} {g : g_S} {n : NS} {m : YS} (hw : w) {xv0 : Nat} {v0 : Int} (ev0 : xv0 = aBx v0) (rv0 : 0 ≤ v0 ∧ v0 ≤ 120) {xv1 : Int32} {v1 : Int} (ev1 : xv1 = Int32.ofInt v1) (rv1 : inR v1) {xv2 : Int32} {v2 : Int} (ev2 : xv2 = Int32.ofInt v2) (rv2 : inR v2) {xv3 : Int32} {v3 : Int} (ev3 : xv3 = Int32.ofInt v3) (rv3 : inR v3) (hR : RC w y g n m) : Rf (fun a b => RZ a b) (M_Box_holds xv0 xv1 xv2 xv3 g) (N_Box_holds v0 v1 v2 v3 n) := by
  subst ev0
  subst ev1
  subst ev2
  subst ev3
  unfold M_Box_holds N_Box_holds
  refine c_I (s := 2) hR (ce_bx hR hw rv0) rfl rfl (fun h1 => ?_)
  refine rf_ck (fun h2 => ?_)
  refine rf_lt rfl (e_add rfl rfl) rv1 h2 ?_ ?_
  · exact rf_ok (by exact ⟨(e_n 0), (.inl rfl)⟩)
  · refine c_I (s := 2) hR (ce_bx hR hw rv0) rfl rfl (fun h5 => ?_)
    refine c_I (s := 4) hR (ce_bx hR hw rv0) rfl rfl (fun h6 => ?_)
    refine rf_ck (fun h7 => ?_)
    refine rf_ck (fun h8 => ?_)
    refine rf_lt rfl (e_sub (e_add rfl rfl) rfl) rv1 h8 ?_ ?_
    · refine c_I (s := 3) hR (ce_bx hR hw rv0) rfl rfl (fun h10 => ?_)
      refine rf_ck (fun h11 => ?_)
      refine rf_lt rfl (e_add rfl rfl) rv2 h11 ?_ ?_
      · exact rf_ok (by exact ⟨(e_n 0), (.inl rfl)⟩)
      · refine c_I (s := 3) hR (ce_bx hR hw rv0) rfl rfl (fun h14 => ?_)
        refine c_I (s := 5) hR (ce_bx hR hw rv0) rfl rfl (fun h15 => ?_)
        refine rf_ck (fun h16 => ?_)
        refine rf_ck (fun h17 => ?_)
        refine rf_lt rfl (e_sub (e_add rfl rfl) rfl) rv2 h17 ?_ ?_
        · exact rf_ok (by exact ⟨(e_n 1), (.inr rfl)⟩)
        · exact rf_ok (by exact ⟨(e_n 0), (.inl rfl)⟩)
    · exact rf_ok (by exact ⟨(e_n 0), (.inl rfl)⟩)
noncomputable def N_Box_colorAt (v0 : Int) (v1 : Int) (v2 : Int) (n : NS) : Option (Int) :=
  (N_Box_holds v0 v1 v2 0 n).bind fun z2 =>
  if z2 = 0 then
    some (-1)
  else
    (N_Box_holds v0 v1 v2 (n 3 v0 7) n).bind fun z9 =>
    if z9 = 0 then
      some (n 3 v0 9)
    else
      some (n 3 v0 10)
theorem f_Box_colorAt {w y : Prop} {g : g_S} {n : NS} {m : YS} (hw : w) {xv0 : Nat} {v0 : Int} (ev0 : xv0 = aBx v0) (rv0 : 0 ≤ v0 ∧ v0 ≤ 120) {xv1 : Int32} {v1 : Int} (ev1 : xv1 = Int32.ofInt v1) (rv1 : inR v1) {xv2 : Int32} {v2 : Int} (ev2 : xv2 = Int32.ofInt v2) (rv2 : inR v2) (hR : RC w y g n m) : Rf (fun a b => RI a b) (M_Box_colorAt xv0 xv1 xv2 g) (N_Box_colorAt v0 v1 v2 n) := by
  subst ev0
  subst ev1
  subst ev2
  unfold M_Box_colorAt N_Box_colorAt
  refine v_c (ce_bx hR hw rv0).1 ?_
  refine rf_bind (f_Box_holds hw rfl rv0 rfl rv1 rfl rv2 (e_n 0) (show inR 0 by decide) hR) (fun a4 z2 h => ?_)
  obtain ⟨rfl, r3⟩ := h
  refine rf_eq rfl (e_n 0) (inZ.r r3) (show inR 0 by decide) ?_ ?_
  · exact rf_ok (by exact ⟨(e_m 1), (show inR (-1) by decide)⟩)
  · refine c_I (s := 7) hR (ce_bx hR hw rv0) rfl rfl (fun h7 => ?_)
    refine v_c (ce_bx hR hw rv0).1 ?_
    refine rf_bind (f_Box_holds hw rfl rv0 rfl rv1 rfl rv2 rfl h7 hR) (fun a11 z9 h => ?_)
    obtain ⟨rfl, r10⟩ := h
    refine rf_eq rfl (e_n 0) (inZ.r r10) (show inR 0 by decide) ?_ ?_
    · refine c_I (s := 9) hR (ce_bx hR hw rv0) rfl rfl (fun h13 => ?_)
      exact rf_ok (by exact ⟨rfl, h13⟩)
    · refine c_I (s := 10) hR (ce_bx hR hw rv0) rfl rfl (fun h15 => ?_)
      exact rf_ok (by exact ⟨rfl, h15⟩)
noncomputable def N_Layout_isGlyphOn (v0 : Int) (v1 : Int) (v2 : Int) (v3 : Int) (n : NS) : Option (Int) :=
  if v1 < 1 then
    some 0
  else
    if v2 < 0 then
      some 0
    else
      if v3 < v1 then
        some 0
      else
        cd v2 v1 <|
        cd v3 v1 <|
        ck ((v3 / v1) - 1) <|
        (N_Bytes_glyphWidth v0 n).bind fun z11 =>
        ck (z11 - 2) <|
        if (z11 - 2) < (v2 / v1) then
          some 0
        else
          if 4 < ((v3 / v1) - 1) then
            some 0
          else
            ck (v0 * 40503) <|
            ck (5 * (v2 / v1)) <|
            ck ((5 * (v2 / v1)) + ((v3 / v1) - 1)) <|
            cd ((5 * (v2 / v1)) + ((v3 / v1) - 1)) 13 <|
            sh5 (((5 * (v2 / v1)) + ((v3 / v1) - 1)) % 13) <|
            if ((((v0 * 40503) / 8) / 2 ^ Int.toNat (((5 * (v2 / v1)) + ((v3 / v1) - 1)) % 13)) % 2) = 1 then
              some 1
            else
              some 0
theorem f_Layout_isGlyphOn {w y : Prop} {g : g_S} {n : NS} {m : YS} {xv0 : Int32} {v0 : Int} (ev0 : xv0 = Int32.ofInt v0) (rv0 : inR v0) {xv1 : Int32} {v1 : Int} (ev1 : xv1 = Int32.ofInt v1) (rv1 : inR v1) {xv2 : Int32} {v2 : Int} (ev2 : xv2 = Int32.ofInt v2) (rv2 : inR v2) {xv3 : Int32} {v3 : Int} (ev3 : xv3 = Int32.ofInt v3) (rv3 : inR v3) (hR : RC w y g n m) : Rf (fun a b => RZ a b) (M_Layout_isGlyphOn xv0 xv1 xv2 xv3 g) (N_Layout_isGlyphOn v0 v1 v2 v3 n) := by
  subst ev0
  subst ev1
  subst ev2
  subst ev3
  unfold M_Layout_isGlyphOn N_Layout_isGlyphOn
  refine rf_lt rfl (e_n 1) rv1 (show inR 1 by decide) ?_ ?_
  · exact rf_ok (by exact ⟨(e_n 0), (.inl rfl)⟩)
  · refine rf_lt rfl (e_n 0) rv2 (show inR 0 by decide) ?_ ?_
    · exact rf_ok (by exact ⟨(e_n 0), (.inl rfl)⟩)
    · refine rf_lt rfl rfl rv3 rv1 ?_ ?_
      · exact rf_ok (by exact ⟨(e_n 0), (.inl rfl)⟩)
      · refine rf_dv rfl rfl rv2 rv1 (fun h7 => ?_)
        refine rf_dv rfl rfl rv3 rv1 (fun h8 => ?_)
        refine rf_ck (fun h9 => ?_)
        refine rf_bind (f_Bytes_glyphWidth rfl rv0 hR) (fun a13 z11 h => ?_)
        obtain ⟨rfl, r12⟩ := h
        refine rf_ck (fun h14 => ?_)
        refine rf_lt (e_sub rfl (e_n 2)) rfl h14 h7 ?_ ?_
        · exact rf_ok (by exact ⟨(e_n 0), (.inl rfl)⟩)
        · refine rf_lt (e_n 4) (e_sub rfl (e_n 1)) (show inR 4 by decide) h9 ?_ ?_
          · exact rf_ok (by exact ⟨(e_n 0), (.inl rfl)⟩)
          · refine rf_ck (fun h20 => ?_)
            refine rf_ck (fun h21 => ?_)
            refine rf_ck (fun h22 => ?_)
            refine rf_rm (e_add (e_mul (e_n 5) rfl) (e_sub rfl (e_n 1))) (e_n 13) h22 (show inR 13 by decide) (fun h23 => ?_)
            refine rf_sh5 (fun h24 => ?_)
            refine rf_eq (e_and1 (e_shr (e_shr3 (e_mul rfl (e_n 40503)) h20) (q8 h20) rfl h24)) (e_n 1) m1 (show inR 1 by decide) ?_ ?_
            · exact rf_ok (by exact ⟨(e_n 1), (.inr rfl)⟩)
            · exact rf_ok (by exact ⟨(e_n 0), (.inl rfl)⟩)
noncomputable def nk_Layout_isLetterOn_53 (v0 : Int) (v2 : Int) (v3 : Int) (v4 : Int) (v5 : Int) (v6 : Int) (v7 : Int) (v8 : Int) (v9 : Int) (w0 : Int) (w1 : Int) (n : NS) : Option ((Int × Int) ⊕ ((Unit) ⊕ (Int × Int × Int) ⊕ (Unit))) :=
  ck (w1 * w0) <|
  ck (v6 + (w1 * w0)) <|
  if v2 < (v6 + (w1 * w0)) then
    some (.inr (.inl ()))
  else
    ck (v6 + (w1 * w0)) <|
    if v4 < (v6 + (w1 * w0)) then
      some (.inr (.inr (.inl (v6, v8, v9))))
    else
      ck (v6 + (w1 * w0)) <|
      ck (v7 + 1) <|
      some (.inl (v6 + (w1 * w0), v7 + 1))
theorem fk_Layout_isLetterOn_53 {w y : Prop} {g : g_S} {n : NS} {m : YS} (hw : w) {xv0 : Nat} {v0 : Int} (ev0 : xv0 = aBy v0) (rv0 : 0 ≤ v0 ∧ v0 ≤ 631) {xv2 : Int32} {v2 : Int} (ev2 : xv2 = Int32.ofInt v2) (rv2 : inR v2) {xv3 : Int32} {v3 : Int} (ev3 : xv3 = Int32.ofInt v3) (rv3 : inR v3) {xv4 : Int32} {v4 : Int} (ev4 : xv4 = Int32.ofInt v4) (rv4 : inR v4) {xv5 : Int32} {v5 : Int} (ev5 : xv5 = Int32.ofInt v5) (rv5 : inR v5) {xv6 : Int32} {v6 : Int} (ev6 : xv6 = Int32.ofInt v6) (rv6 : inR v6) {xv7 : Int32} {v7 : Int} (ev7 : xv7 = Int32.ofInt v7) (rv7 : inR v7) {xv8 : Int32} {v8 : Int} (ev8 : xv8 = Int32.ofInt v8) (rv8 : inR v8) {xv9 : Int32} {v9 : Int} (ev9 : xv9 = Int32.ofInt v9) (rv9 : inR v9) {xw0 : Int32} {w0 : Int} (ew0 : xw0 = Int32.ofInt w0) (rw0 : inR w0) {xw1 : Int32} {w1 : Int} (ew1 : xw1 = Int32.ofInt w1) (rw1 : inR w1) (hR : RC w y g n m) : Rf (RS (fun a b => RI a.1 b.1 ∧ RI a.2 b.2) (RS (fun _ _ => True) (RS (fun a b => RI a.1 b.1 ∧ RI a.2.1 b.2.1 ∧ RI a.2.2 b.2.2) (fun _ _ => True)))) (k_Layout_isLetterOn_53 xv0 xv2 xv3 xv4 xv5 xv6 xv7 xv8 xv9 xw0 xw1 g) (nk_Layout_isLetterOn_53 v0 v2 v3 v4 v5 v6 v7 v8 v9 w0 w1 n) := by
  subst ev0
  subst ev2
  subst ev3
  subst ev4
  subst ev5
  subst ev6
  subst ev7
  subst ev8
  subst ev9
  subst ew0
  subst ew1
  unfold k_Layout_isLetterOn_53 nk_Layout_isLetterOn_53
  refine rf_ck (fun h1 => ?_)
  refine rf_ck (fun h2 => ?_)
  refine rf_lt rfl (e_add rfl (e_mul rfl rfl)) rv2 h2 ?_ ?_
  · exact rf_ok (by exact trivial)
  · refine rf_ck (fun h4 => ?_)
    refine rf_lt rfl (e_add rfl (e_mul rfl rfl)) rv4 h4 ?_ ?_
    · exact rf_ok (by exact ⟨⟨rfl, rv6⟩, ⟨rfl, rv8⟩, ⟨rfl, rv9⟩⟩)
    · refine rf_ck (fun h6 => ?_)
      refine rf_ck (fun h7 => ?_)
      exact rf_ok (by exact ⟨⟨(e_add rfl (e_mul rfl rfl)), h6⟩, ⟨(e_add rfl (e_n 1)), h7⟩⟩)
noncomputable def nb_Layout_isLetterOn_6 (v0 : Int) (v2 : Int) (v3 : Int) (v4 : Int) (v5 : Int) (v6 : Int) (v7 : Int) (n : NS) : Option ((Int × Int) ⊕ ((Unit) ⊕ (Int × Int × Int) ⊕ (Unit))) :=
  if v7 < (n 4 v0 2) then
    if v4 < v6 then
      some (.inr (.inr (.inr ())))
    else
      nn (n 4 v0 1) <|
      dx n (n 4 v0 1) 1 v7 <|
      (N_Bytes_isBlank (n 99 (n 4 v0 1) v7) n).bind fun z8 =>
      if z8 = 0 then
        (N_Bytes_glyphWidth (n 99 (n 4 v0 1) v7) n).bind fun z13 =>
        nk_Layout_isLetterOn_53 v0 v2 v3 v4 v5 v6 v7 (n 99 (n 4 v0 1) v7) z8 z13 v3 n
      else
        nk_Layout_isLetterOn_53 v0 v2 v3 v4 v5 v6 v7 (n 99 (n 4 v0 1) v7) z8 3 v3 n
  else
    some (.inr (.inr (.inr ())))
theorem fb_Layout_isLetterOn_6 {w y : Prop} {g : g_S} {n : NS} {m : YS} (hw : w) {xv0 : Nat} {v0 : Int} (ev0 : xv0 = aBy v0) (rv0 : 0 ≤ v0 ∧ v0 ≤ 631) {xv2 : Int32} {v2 : Int} (ev2 : xv2 = Int32.ofInt v2) (rv2 : inR v2) {xv3 : Int32} {v3 : Int} (ev3 : xv3 = Int32.ofInt v3) (rv3 : inR v3) {xv4 : Int32} {v4 : Int} (ev4 : xv4 = Int32.ofInt v4) (rv4 : inR v4) {xv5 : Int32} {v5 : Int} (ev5 : xv5 = Int32.ofInt v5) (rv5 : inR v5) {xv6 : Int32} {v6 : Int} (ev6 : xv6 = Int32.ofInt v6) (rv6 : inR v6) {xv7 : Int32} {v7 : Int} (ev7 : xv7 = Int32.ofInt v7) (rv7 : inR v7) (hR : RC w y g n m) : Rf (RS (fun a b => RI a.1 b.1 ∧ RI a.2 b.2) (RS (fun _ _ => True) (RS (fun a b => RI a.1 b.1 ∧ RI a.2.1 b.2.1 ∧ RI a.2.2 b.2.2) (fun _ _ => True)))) (b_Layout_isLetterOn_6 xv0 xv2 xv3 xv4 xv5 xv6 xv7 g) (nb_Layout_isLetterOn_6 v0 v2 v3 v4 v5 v6 v7 n) := by
  subst ev0
  subst ev2
  subst ev3
  subst ev4
  subst ev5
  subst ev6
  subst ev7
  unfold b_Layout_isLetterOn_6 nb_Layout_isLetterOn_6
  refine c_I (s := 2) hR (ce_by hR hw rv0) rfl rfl (fun h1 => ?_)
  refine rf_lt rfl rfl rv7 h1 ?_ ?_
  · refine rf_lt rfl rfl rv4 rv6 ?_ ?_
    · exact rf_ok (by exact trivial)
    · refine c_D (s := 1) hR (ce_by hR hw rv0) rfl rfl rfl (fun h4 => ?_)
      refine d_B hR h4 rfl rv7 (fun h5 h6 => ?_)
      refine rf_bind (f_Bytes_isBlank rfl (inB.r h6) hR) (fun a10 z8 h => ?_)
      obtain ⟨rfl, r9⟩ := h
      refine rf_eq rfl (e_n 0) (inZ.r r9) (show inR 0 by decide) ?_ ?_
      · refine rf_bind (f_Bytes_glyphWidth rfl (inB.r h6) hR) (fun a15 z13 h => ?_)
        obtain ⟨rfl, r14⟩ := h
        exact fk_Layout_isLetterOn_53 hw rfl rv0 rfl rv2 rfl rv3 rfl rv4 rfl rv5 rfl rv6 rfl rv7 rfl (inB.r h6) rfl (inZ.r r9) rfl r14 rfl rv3 hR
      · exact fk_Layout_isLetterOn_53 hw rfl rv0 rfl rv2 rfl rv3 rfl rv4 rfl rv5 rfl rv6 rfl rv7 rfl (inB.r h6) rfl (inZ.r r9) (e_n 3) (show inR 3 by decide) rfl rv3 hR
  · exact rf_ok (by exact trivial)
noncomputable def NL_Layout_isLetterOn_6 (v0 : Int) (v2 : Int) (v3 : Int) (v4 : Int) (v5 : Int) (v6 : Int) (v7 : Int) (n : NS) : Option ((Unit) ⊕ (Int × Int × Int) ⊕ (Unit)) :=
  it (fun s : Int × Int => nb_Layout_isLetterOn_6 v0 v2 v3 v4 v5 s.1 s.2 n) (v6, v7)
theorem fL_Layout_isLetterOn_6 {w y : Prop} {g : g_S} {n : NS} {m : YS} (hw : w) {xv0 : Nat} {v0 : Int} (ev0 : xv0 = aBy v0) (rv0 : 0 ≤ v0 ∧ v0 ≤ 631) {xv2 : Int32} {v2 : Int} (ev2 : xv2 = Int32.ofInt v2) (rv2 : inR v2) {xv3 : Int32} {v3 : Int} (ev3 : xv3 = Int32.ofInt v3) (rv3 : inR v3) {xv4 : Int32} {v4 : Int} (ev4 : xv4 = Int32.ofInt v4) (rv4 : inR v4) {xv5 : Int32} {v5 : Int} (ev5 : xv5 = Int32.ofInt v5) (rv5 : inR v5) {xv6 : Int32} {v6 : Int} (ev6 : xv6 = Int32.ofInt v6) (rv6 : inR v6) {xv7 : Int32} {v7 : Int} (ev7 : xv7 = Int32.ofInt v7) (rv7 : inR v7) (hR : RC w y g n m) : Rf (RS (fun _ _ => True) (RS (fun a b => RI a.1 b.1 ∧ RI a.2.1 b.2.1 ∧ RI a.2.2 b.2.2) (fun _ _ => True))) (L_Layout_isLetterOn_6 xv0 xv2 xv3 xv4 xv5 xv6 xv7 g) (NL_Layout_isLetterOn_6 v0 v2 v3 v4 v5 v6 v7 n) := by
  subst ev0
  subst ev2
  subst ev3
  subst ev4
  subst ev5
  subst ev6
  subst ev7
  unfold L_Layout_isLetterOn_6 NL_Layout_isLetterOn_6
  refine rf_it (I := (fun a b => RI a.1 b.1 ∧ RI a.2 b.2)) (fun s t h => ?_) ⟨⟨rfl, rv6⟩, ⟨rfl, rv7⟩⟩
  exact fb_Layout_isLetterOn_6 hw rfl rv0 rfl rv2 rfl rv3 rfl rv4 rfl rv5 h.1.1 h.1.2 h.2.1 h.2.2 hR
theorem NL_Layout_isLetterOn_6_eq (v0 : Int) (v2 : Int) (v3 : Int) (v4 : Int) (v5 : Int) (v6 : Int) (v7 : Int) (n : NS) : NL_Layout_isLetterOn_6 v0 v2 v3 v4 v5 v6 v7 n = itc (nb_Layout_isLetterOn_6 v0 v2 v3 v4 v5 v6 v7 n) (fun s => NL_Layout_isLetterOn_6 v0 v2 v3 v4 v5 s.1 s.2 n) := it_eq2 (fun s : Int × Int => nb_Layout_isLetterOn_6 v0 v2 v3 v4 v5 s.1 s.2 n) (v6, v7)
noncomputable def N_Layout_isLetterOn (v0 : Int) (v1 : Int) (v2 : Int) (v3 : Int) (v4 : Int) (v5 : Int) (n : NS) : Option (Int) :=
  (NL_Layout_isLetterOn_6 v0 v2 v3 v4 v5 0 v1 n).bind <|
    us (fun _ =>
    some 0)
    (us (u3 fun z2 z3 z4 =>
    if z4 = 0 then
      ck (v4 - z2) <|
      (N_Layout_isGlyphOn z3 v3 (v4 - z2) v5 n).bind fun z14 =>
      if z14 = 0 then
        some 0
      else
        some 1
    else
      some 0)
    (fun _ =>
    some 0))
theorem f_Layout_isLetterOn {w y : Prop} {g : g_S} {n : NS} {m : YS} (hw : w) {xv0 : Nat} {v0 : Int} (ev0 : xv0 = aBy v0) (rv0 : 0 ≤ v0 ∧ v0 ≤ 631) {xv1 : Int32} {v1 : Int} (ev1 : xv1 = Int32.ofInt v1) (rv1 : inR v1) {xv2 : Int32} {v2 : Int} (ev2 : xv2 = Int32.ofInt v2) (rv2 : inR v2) {xv3 : Int32} {v3 : Int} (ev3 : xv3 = Int32.ofInt v3) (rv3 : inR v3) {xv4 : Int32} {v4 : Int} (ev4 : xv4 = Int32.ofInt v4) (rv4 : inR v4) {xv5 : Int32} {v5 : Int} (ev5 : xv5 = Int32.ofInt v5) (rv5 : inR v5) (hR : RC w y g n m) : Rf (fun a b => RZ a b) (M_Layout_isLetterOn xv0 xv1 xv2 xv3 xv4 xv5 g) (N_Layout_isLetterOn v0 v1 v2 v3 v4 v5 n) := by
  subst ev0
  subst ev1
  subst ev2
  subst ev3
  subst ev4
  subst ev5
  unfold M_Layout_isLetterOn N_Layout_isLetterOn
  refine rf_bind (fL_Layout_isLetterOn_6 hw rfl rv0 rfl rv2 rfl rv3 rfl rv4 rfl rv5 (e_n 0) (show inR 0 by decide) rfl rv1 hR) (fun a b h => rf_us h (fun a b h => ?_) (fun a b h => rf_us h (fun a b h => ?_) (fun a b h => ?_)))
  · exact rf_ok (by exact ⟨(e_n 0), (.inl rfl)⟩)
  · obtain ⟨a5, a6, a7⟩ := a
    obtain ⟨z2, z3, z4⟩ := b
    refine rf_u3 ?_
    obtain ⟨rfl, r8⟩ := (show RI a5 z2 from h.1)
    obtain ⟨rfl, r9⟩ := (show RI a6 z3 from h.2.1)
    obtain ⟨rfl, r10⟩ := (show RI a7 z4 from h.2.2)
    refine rf_eq rfl (e_n 0) r10 (show inR 0 by decide) ?_ ?_
    · refine rf_ck (fun h12 => ?_)
      refine rf_bind (f_Layout_isGlyphOn rfl r9 rfl rv3 (e_sub rfl rfl) h12 rfl rv5 hR) (fun a16 z14 h => ?_)
      obtain ⟨rfl, r15⟩ := h
      refine rf_eq rfl (e_n 0) (inZ.r r15) (show inR 0 by decide) ?_ ?_
      · exact rf_ok (by exact ⟨(e_n 0), (.inl rfl)⟩)
      · exact rf_ok (by exact ⟨(e_n 1), (.inr rfl)⟩)
    · exact rf_ok (by exact ⟨(e_n 0), (.inl rfl)⟩)
  · exact rf_ok (by exact ⟨(e_n 0), (.inl rfl)⟩)
noncomputable def nk_Layout_pieceColorAt_153 (v2 : Int) (v3 : Int) (v5 : Int) (v6 : Int) (n : NS) : Option (Int × NS) :=
  if v6 = 0 then
    (N_Box_colorAt v5 v2 v3 n).bind fun z3 =>
    some (z3, n)
  else
    some ((n 3 v5 9), n)
theorem fk_Layout_pieceColorAt_153 {w y : Prop} {g : g_S} {n : NS} {m : YS} (hw : w) {xv2 : Int32} {v2 : Int} (ev2 : xv2 = Int32.ofInt v2) (rv2 : inR v2) {xv3 : Int32} {v3 : Int} (ev3 : xv3 = Int32.ofInt v3) (rv3 : inR v3) {xv5 : Nat} {v5 : Int} (ev5 : xv5 = aBx v5) (rv5 : 0 ≤ v5 ∧ v5 ≤ 120) {xv6 : Int32} {v6 : Int} (ev6 : xv6 = Int32.ofInt v6) (rv6 : inR v6) (hR : RC w y g n m) : Rf (fun a b => RI a.1 b.1 ∧ RC w y a.2 b.2 m) (k_Layout_pieceColorAt_153 xv2 xv3 xv5 xv6 g) (nk_Layout_pieceColorAt_153 v2 v3 v5 v6 n) := by
  subst ev2
  subst ev3
  subst ev5
  subst ev6
  unfold k_Layout_pieceColorAt_153 nk_Layout_pieceColorAt_153
  refine rf_eq rfl (e_n 0) rv6 (show inR 0 by decide) ?_ ?_
  · refine v_c (ce_bx hR hw rv5).1 ?_
    refine rf_bind (f_Box_colorAt hw rfl rv5 rfl rv2 rfl rv3 hR) (fun a5 z3 h => ?_)
    obtain ⟨rfl, r4⟩ := h
    exact rf_ok (by exact ⟨⟨rfl, r4⟩, hR⟩)
  · refine c_I (s := 9) hR (ce_bx hR hw rv5) rfl rfl (fun h7 => ?_)
    exact rf_ok (by exact ⟨⟨rfl, h7⟩, hR⟩)
noncomputable def nk_Layout_pieceColorAt_109 (v2 : Int) (v3 : Int) (v5 : Int) (v7 : Int) (n : NS) : Option (Int × NS) :=
  (N_Box_innerWidth v5 n).bind fun z2 =>
  ck (v2 - (n 3 v5 2)) <|
  ck ((v2 - (n 3 v5 2)) - (n 3 v5 8)) <|
  ck (v3 - (n 3 v5 3)) <|
  ck ((v3 - (n 3 v5 3)) - (n 3 v5 8)) <|
  (N_Layout_isLetterOn v7 0 z2 (n 3 v5 11) ((v2 - (n 3 v5 2)) - (n 3 v5 8)) ((v3 - (n 3 v5 3)) - (n 3 v5 8)) n).bind fun z15 =>
  nk_Layout_pieceColorAt_153 v2 v3 v5 z15 n
theorem fk_Layout_pieceColorAt_109 {w y : Prop} {g : g_S} {n : NS} {m : YS} (hw : w) {xv2 : Int32} {v2 : Int} (ev2 : xv2 = Int32.ofInt v2) (rv2 : inR v2) {xv3 : Int32} {v3 : Int} (ev3 : xv3 = Int32.ofInt v3) (rv3 : inR v3) {xv5 : Nat} {v5 : Int} (ev5 : xv5 = aBx v5) (rv5 : 0 ≤ v5 ∧ v5 ≤ 120) {xv7 : Nat} {v7 : Int} (ev7 : xv7 = aBy v7) (rv7 : 0 ≤ v7 ∧ v7 ≤ 631) (hR : RC w y g n m) : Rf (fun a b => RI a.1 b.1 ∧ RC w y a.2 b.2 m) (k_Layout_pieceColorAt_109 xv2 xv3 xv5 xv7 g) (nk_Layout_pieceColorAt_109 v2 v3 v5 v7 n) := by
  subst ev2
  subst ev3
  subst ev5
  subst ev7
  unfold k_Layout_pieceColorAt_109 nk_Layout_pieceColorAt_109
  refine v_c (ce_bx hR hw rv5).1 ?_
  refine rf_bind (f_Box_innerWidth hw rfl rv5 hR) (fun a4 z2 h => ?_)
  obtain ⟨rfl, r3⟩ := h
  refine c_I (s := 11) hR (ce_bx hR hw rv5) rfl rfl (fun h5 => ?_)
  refine c_I (s := 2) hR (ce_bx hR hw rv5) rfl rfl (fun h6 => ?_)
  refine rf_ck (fun h7 => ?_)
  refine c_I (s := 8) hR (ce_bx hR hw rv5) rfl rfl (fun h8 => ?_)
  refine rf_ck (fun h9 => ?_)
  refine c_I (s := 3) hR (ce_bx hR hw rv5) rfl rfl (fun h10 => ?_)
  refine rf_ck (fun h11 => ?_)
  refine c_I (s := 8) hR (ce_bx hR hw rv5) rfl rfl (fun h12 => ?_)
  refine rf_ck (fun h13 => ?_)
  refine rf_bind (f_Layout_isLetterOn hw rfl rv7 (e_n 0) (show inR 0 by decide) rfl r3 rfl h5 (e_sub (e_sub rfl rfl) rfl) h9 (e_sub (e_sub rfl rfl) rfl) h13 hR) (fun a17 z15 h => ?_)
  obtain ⟨rfl, r16⟩ := h
  exact fk_Layout_pieceColorAt_153 hw rfl rv2 rfl rv3 rfl rv5 rfl (inZ.r r16) hR
noncomputable def N_Layout_pieceColorAt (v1 : Int) (v2 : Int) (v3 : Int) (n : NS) : Option (Int × NS) :=
  ix v1 120 <|
  ix v1 120 <|
  if (n 7 v1 0) = 12 then
    (N_Box_holds v1 v2 v3 0 n).bind fun z11 =>
    if z11 = 0 then
      some ((-1), n)
    else
      some ((n 3 v1 9), n)
  else
    if (n 7 v1 16) = 0 then
      if (n 7 v1 0) = 14 then
        (N_Layout_textWidth v1 (n 3 v1 11) n).bind <| u2 fun z25 n28 =>
        nk_Layout_pieceColorAt_109 v2 v3 v1 608 n28
      else
        nk_Layout_pieceColorAt_109 v2 v3 v1 (5 * v1) n
    else
      (N_Box_holds v1 v2 v3 (n 3 v1 8) n).bind fun z34 =>
      nk_Layout_pieceColorAt_153 v2 v3 v1 z34 n
theorem f_Layout_pieceColorAt {w y : Prop} {g : g_S} {n : NS} {m : YS} (hw : w) {xv1 : Int32} {v1 : Int} (ev1 : xv1 = Int32.ofInt v1) (rv1 : inR v1) {xv2 : Int32} {v2 : Int} (ev2 : xv2 = Int32.ofInt v2) (rv2 : inR v2) {xv3 : Int32} {v3 : Int} (ev3 : xv3 = Int32.ofInt v3) (rv3 : inR v3) (hR : RC w y g n m) : Rf (fun a b => RI a.1 b.1 ∧ RC w y a.2 b.2 m) (M_Layout_pieceColorAt 1661 xv1 xv2 xv3 g) (N_Layout_pieceColorAt v1 v2 v3 n) := by
  subst ev1
  subst ev2
  subst ev3
  unfold M_Layout_pieceColorAt N_Layout_pieceColorAt
  refine c_S hR hw (sK5 hR hw) (by decide) (show srf 5 0 0 = some 5 from rfl) ?_
  refine c_S hR hw (sK10 hR hw) (by decide) (show srf 10 0 0 = some 6 from rfl) ?_
  refine s_S (p := aNd (_)) (L := 120) hR hw (sA20 hR hw) (by decide) (lA20 hR hw) rfl rfl rv1 (fun z1 z2 => srf20 z1 z2) (fun h3 => ?_)
  refine c_S hR hw (sK5 hR hw) (by decide) (show srf 5 0 2 = some 1662 from rfl) ?_
  refine s_S (p := aBx (_)) (L := 120) hR hw (sA42 hR hw) (by decide) (lA42 hR hw) rfl rfl rv1 (fun z1 z2 => srf42 z1 z2) (fun h6 => ?_)
  refine c_I (s := 0) hR (ce_nd hR hw (And.intro h3.1 (Int.le_of_lt h3.2))) rfl rfl (fun h8 => ?_)
  refine rf_eq rfl (e_n 12) h8 (show inR 12 by decide) ?_ ?_
  · refine v_c (ce_bx hR hw (And.intro h6.1 (Int.le_of_lt h6.2))).1 ?_
    refine rf_bind (f_Box_holds hw rfl (And.intro h6.1 (Int.le_of_lt h6.2)) rfl rv2 rfl rv3 (e_n 0) (show inR 0 by decide) hR) (fun a13 z11 h => ?_)
    obtain ⟨rfl, r12⟩ := h
    refine rf_eq rfl (e_n 0) (inZ.r r12) (show inR 0 by decide) ?_ ?_
    · exact rf_ok (by exact ⟨⟨(e_m 1), (show inR (-1) by decide)⟩, hR⟩)
    · refine c_I (s := 9) hR (ce_bx hR hw (And.intro h6.1 (Int.le_of_lt h6.2))) rfl rfl (fun h16 => ?_)
      exact rf_ok (by exact ⟨⟨rfl, h16⟩, hR⟩)
  · refine c_Z (s := 16) hR (ce_nd hR hw (And.intro h3.1 (Int.le_of_lt h3.2))) rfl rfl rfl (fun h18 => ?_)
    refine rf_eq rfl (e_n 0) (inZ.r h18) (show inR 0 by decide) ?_ ?_
    · refine c_S (p := _) hR hw (ce_nd hR hw (And.intro h3.1 (Int.le_of_lt h3.2))) (Nat.lt_trans (nd_lt (And.intro h3.1 (Int.le_of_lt h3.2))).1 (by decide)) rfl ?_
      refine c_I (s := 0) hR (ce_nd hR hw (And.intro h3.1 (Int.le_of_lt h3.2))) rfl rfl (fun h21 => ?_)
      refine rf_eq rfl (e_n 14) h21 (show inR 14 by decide) ?_ ?_
      · refine c_I (s := 11) hR (ce_bx hR hw (And.intro h6.1 (Int.le_of_lt h6.2))) rfl rfl (fun h23 => ?_)
        refine v_c2 (sK5 hR hw).1 ?_
        refine rf_c2 (f_Layout_textWidth hw rfl rv1 rfl h23 hR) (fun a27 g30 b h => ?_)
        obtain ⟨z25, n28⟩ := b
        refine rf_v2 ?_
        obtain ⟨rfl, r26⟩ := (show RI a27 z25 from h.1)
        have hR29 : RC w y g30 n28 m := h.2
        refine c_S hR29 hw (sK5 hR29 hw) (by decide) (show srf 5 0 7 = some 1664 from rfl) ?_
        exact fk_Layout_pieceColorAt_109 hw rfl rv2 rfl rv3 rfl (And.intro h6.1 (Int.le_of_lt h6.2)) bS608.symm (by decide) hR29
      · exact fk_Layout_pieceColorAt_109 hw rfl rv2 rfl rv3 rfl (And.intro h6.1 (Int.le_of_lt h6.2)) rfl (by5 (And.intro h3.1 (Int.le_of_lt h3.2))) hR
    · refine c_I (s := 8) hR (ce_bx hR hw (And.intro h6.1 (Int.le_of_lt h6.2))) rfl rfl (fun h32 => ?_)
      refine v_c (ce_bx hR hw (And.intro h6.1 (Int.le_of_lt h6.2))).1 ?_
      refine rf_bind (f_Box_holds hw rfl (And.intro h6.1 (Int.le_of_lt h6.2)) rfl rv2 rfl rv3 rfl h32 hR) (fun a36 z34 h => ?_)
      obtain ⟨rfl, r35⟩ := h
      exact fk_Layout_pieceColorAt_153 hw rfl rv2 rfl rv3 rfl (And.intro h6.1 (Int.le_of_lt h6.2)) rfl (inZ.r r35) hR
noncomputable def nb_Layout_wordAt_6 (v1 : Int) (v2 : Int) (v3 : Int) (v4 : Int) (n : NS) : Option ((Int) ⊕ ((Int) ⊕ (Unit))) :=
  ck ((n 3 v1 18) + (n 3 v1 19)) <|
  if v4 < ((n 3 v1 18) + (n 3 v1 19)) then
    nn (n 5 0 5) <|
    ck (v4 * 6) <|
    ck ((v4 * 6) + 3) <|
    dx n (n 5 0 5) 0 ((v4 * 6) + 3) <|
    nn (n 5 0 5) <|
    ck (v4 * 6) <|
    ck ((v4 * 6) + 4) <|
    dx n (n 5 0 5) 0 ((v4 * 6) + 4) <|
    if v2 < (n 99 (n 5 0 5) ((v4 * 6) + 3)) then
      ck (v4 + 1) <|
      some (.inl (v4 + 1))
    else
      nn (n 5 0 5) <|
      ck (v4 * 6) <|
      ck ((v4 * 6) + 5) <|
      dx n (n 5 0 5) 0 ((v4 * 6) + 5) <|
      ck ((n 99 (n 5 0 5) ((v4 * 6) + 3)) + (n 99 (n 5 0 5) ((v4 * 6) + 5))) <|
      if v2 < ((n 99 (n 5 0 5) ((v4 * 6) + 3)) + (n 99 (n 5 0 5) ((v4 * 6) + 5))) then
        if v3 < (n 99 (n 5 0 5) ((v4 * 6) + 4)) then
          ck (v4 + 1) <|
          some (.inl (v4 + 1))
        else
          ck (7 * (n 3 v1 11)) <|
          ck ((n 99 (n 5 0 5) ((v4 * 6) + 4)) + (7 * (n 3 v1 11))) <|
          if v3 < ((n 99 (n 5 0 5) ((v4 * 6) + 4)) + (7 * (n 3 v1 11))) then
            some (.inr (.inl v4))
          else
            ck (v4 + 1) <|
            some (.inl (v4 + 1))
      else
        ck (v4 + 1) <|
        some (.inl (v4 + 1))
  else
    some (.inr (.inr ()))
theorem fb_Layout_wordAt_6 {w y : Prop} {g : g_S} {n : NS} {m : YS} (hw : w) {xv1 : Nat} {v1 : Int} (ev1 : xv1 = aBx v1) (rv1 : 0 ≤ v1 ∧ v1 ≤ 120) {xv2 : Int32} {v2 : Int} (ev2 : xv2 = Int32.ofInt v2) (rv2 : inR v2) {xv3 : Int32} {v3 : Int} (ev3 : xv3 = Int32.ofInt v3) (rv3 : inR v3) {xv4 : Int32} {v4 : Int} (ev4 : xv4 = Int32.ofInt v4) (rv4 : inR v4) (hR : RC w y g n m) : Rf (RS (fun a b => RI a b) (RS (fun a b => RI a b) (fun _ _ => True))) (b_Layout_wordAt_6 1661 xv1 xv2 xv3 xv4 g) (nb_Layout_wordAt_6 v1 v2 v3 v4 n) := by
  subst ev1
  subst ev2
  subst ev3
  subst ev4
  unfold b_Layout_wordAt_6 nb_Layout_wordAt_6
  refine c_I (s := 18) hR (ce_bx hR hw rv1) rfl rfl (fun h1 => ?_)
  refine c_I (s := 19) hR (ce_bx hR hw rv1) rfl rfl (fun h2 => ?_)
  refine rf_ck (fun h3 => ?_)
  refine rf_lt rfl (e_add rfl rfl) rv4 h3 ?_ ?_
  · refine c_D (s := 5) hR (sK5 hR hw) rfl rfl rfl (fun h5 => ?_)
    refine rf_ck (fun h6 => ?_)
    refine rf_ck (fun h7 => ?_)
    refine d_I hR h5 (e_add (e_mul rfl (e_n 6)) (e_n 3)) h7 (fun h8 h9 => ?_)
    refine c_D (s := 5) hR (sK5 hR hw) rfl rfl rfl (fun h10 => ?_)
    refine rf_ck (fun h11 => ?_)
    refine rf_ck (fun h12 => ?_)
    refine d_I hR h10 (e_add (e_mul rfl (e_n 6)) (e_n 4)) h12 (fun h13 h14 => ?_)
    refine rf_lt rfl rfl rv2 h9 ?_ ?_
    · refine rf_ck (fun h16 => ?_)
      exact rf_ok (by exact ⟨(e_add rfl (e_n 1)), h16⟩)
    · refine c_D (s := 5) hR (sK5 hR hw) rfl rfl rfl (fun h17 => ?_)
      refine rf_ck (fun h18 => ?_)
      refine rf_ck (fun h19 => ?_)
      refine d_I hR h17 (e_add (e_mul rfl (e_n 6)) (e_n 5)) h19 (fun h20 h21 => ?_)
      refine rf_ck (fun h22 => ?_)
      refine rf_lt rfl (e_add rfl rfl) rv2 h22 ?_ ?_
      · refine rf_lt rfl rfl rv3 h14 ?_ ?_
        · refine rf_ck (fun h25 => ?_)
          exact rf_ok (by exact ⟨(e_add rfl (e_n 1)), h25⟩)
        · refine c_I (s := 11) hR (ce_bx hR hw rv1) rfl rfl (fun h26 => ?_)
          refine rf_ck (fun h27 => ?_)
          refine rf_ck (fun h28 => ?_)
          refine rf_lt rfl (e_add rfl (e_mul (e_n 7) rfl)) rv3 h28 ?_ ?_
          · exact rf_ok (by exact ⟨rfl, rv4⟩)
          · refine rf_ck (fun h30 => ?_)
            exact rf_ok (by exact ⟨(e_add rfl (e_n 1)), h30⟩)
      · refine rf_ck (fun h31 => ?_)
        exact rf_ok (by exact ⟨(e_add rfl (e_n 1)), h31⟩)
  · exact rf_ok (by exact trivial)
noncomputable def NL_Layout_wordAt_6 (v1 : Int) (v2 : Int) (v3 : Int) (v4 : Int) (n : NS) : Option ((Int) ⊕ (Unit)) :=
  it (fun s : Int => nb_Layout_wordAt_6 v1 v2 v3 s n) (v4)
theorem fL_Layout_wordAt_6 {w y : Prop} {g : g_S} {n : NS} {m : YS} (hw : w) {xv1 : Nat} {v1 : Int} (ev1 : xv1 = aBx v1) (rv1 : 0 ≤ v1 ∧ v1 ≤ 120) {xv2 : Int32} {v2 : Int} (ev2 : xv2 = Int32.ofInt v2) (rv2 : inR v2) {xv3 : Int32} {v3 : Int} (ev3 : xv3 = Int32.ofInt v3) (rv3 : inR v3) {xv4 : Int32} {v4 : Int} (ev4 : xv4 = Int32.ofInt v4) (rv4 : inR v4) (hR : RC w y g n m) : Rf (RS (fun a b => RI a b) (fun _ _ => True)) (L_Layout_wordAt_6 1661 xv1 xv2 xv3 xv4 g) (NL_Layout_wordAt_6 v1 v2 v3 v4 n) := by
  subst ev1
  subst ev2
  subst ev3
  subst ev4
  unfold L_Layout_wordAt_6 NL_Layout_wordAt_6
  refine rf_it (I := (fun a b => RI a b)) (fun s t h => ?_) ⟨rfl, rv4⟩
  exact fb_Layout_wordAt_6 hw rfl rv1 rfl rv2 rfl rv3 h.1 h.2 hR
theorem NL_Layout_wordAt_6_eq (v1 : Int) (v2 : Int) (v3 : Int) (v4 : Int) (n : NS) : NL_Layout_wordAt_6 v1 v2 v3 v4 n = itc (nb_Layout_wordAt_6 v1 v2 v3 v4 n) (fun s => NL_Layout_wordAt_6 v1 v2 v3 s n) := it_eq2 (fun s : Int => nb_Layout_wordAt_6 v1 v2 v3 s n) (v4)
noncomputable def N_Layout_wordAt (v1 : Int) (v2 : Int) (v3 : Int) (n : NS) : Option (Int) :=
  (NL_Layout_wordAt_6 v1 v2 v3 (n 3 v1 18) n).bind <|
    us (fun z2 =>
    some z2)
    (fun _ =>
    some (-1))
theorem f_Layout_wordAt {w y : Prop} {g : g_S} {n : NS} {m : YS} (hw : w) {xv1 : Nat} {v1 : Int} (ev1 : xv1 = aBx v1) (rv1 : 0 ≤ v1 ∧ v1 ≤ 120) {xv2 : Int32} {v2 : Int} (ev2 : xv2 = Int32.ofInt v2) (rv2 : inR v2) {xv3 : Int32} {v3 : Int} (ev3 : xv3 = Int32.ofInt v3) (rv3 : inR v3) (hR : RC w y g n m) : Rf (fun a b => RI a b) (M_Layout_wordAt 1661 xv1 xv2 xv3 g) (N_Layout_wordAt v1 v2 v3 n) := by
  subst ev1
  subst ev2
  subst ev3
  unfold M_Layout_wordAt N_Layout_wordAt
  refine c_I (s := 18) hR (ce_bx hR hw rv1) rfl rfl (fun h1 => ?_)
  refine rf_bind (fL_Layout_wordAt_6 hw rfl rv1 rfl rv2 rfl rv3 rfl h1 hR) (fun a b h => rf_us h (fun a3 z2 h => ?_) (fun a b h => ?_))
  · obtain ⟨rfl, r4⟩ := (show RI a3 z2 from h)
    exact rf_ok (by exact ⟨rfl, r4⟩)
  · exact rf_ok (by exact ⟨(e_m 1), (show inR (-1) by decide)⟩)
noncomputable def N_Layout_wordColorAt (v1 : Int) (v2 : Int) (v3 : Int) (n : NS) : Option (Int) :=
  ix v1 120 <|
  (N_Layout_wordAt v1 v2 v3 n).bind fun z5 =>
  if z5 = (-1) then
    some (-1)
  else
    nn (n 5 0 5) <|
    ck (z5 * 6) <|
    ck ((z5 * 6) + 1) <|
    dx n (n 5 0 5) 0 ((z5 * 6) + 1) <|
    nn (n 5 0 5) <|
    ck (z5 * 6) <|
    ck ((z5 * 6) + 3) <|
    dx n (n 5 0 5) 0 ((z5 * 6) + 3) <|
    ck (v2 - (n 99 (n 5 0 5) ((z5 * 6) + 3))) <|
    nn (n 5 0 5) <|
    ck (z5 * 6) <|
    ck ((z5 * 6) + 4) <|
    dx n (n 5 0 5) 0 ((z5 * 6) + 4) <|
    ck (v3 - (n 99 (n 5 0 5) ((z5 * 6) + 4))) <|
    ix v1 120 <|
    nn (n 5 0 5) <|
    ck (z5 * 6) <|
    ck ((z5 * 6) + 5) <|
    dx n (n 5 0 5) 0 ((z5 * 6) + 5) <|
    (N_Layout_isLetterOn (5 * v1) (n 99 (n 5 0 5) ((z5 * 6) + 1)) (n 99 (n 5 0 5) ((z5 * 6) + 5)) (n 3 v1 11) (v2 - (n 99 (n 5 0 5) ((z5 * 6) + 3))) (v3 - (n 99 (n 5 0 5) ((z5 * 6) + 4))) n).bind fun z39 =>
    if z39 = 0 then
      some (-1)
    else
      some (n 3 v1 9)
theorem f_Layout_wordColorAt {w y : Prop} {g : g_S} {n : NS} {m : YS} (hw : w) {xv1 : Int32} {v1 : Int} (ev1 : xv1 = Int32.ofInt v1) (rv1 : inR v1) {xv2 : Int32} {v2 : Int} (ev2 : xv2 = Int32.ofInt v2) (rv2 : inR v2) {xv3 : Int32} {v3 : Int} (ev3 : xv3 = Int32.ofInt v3) (rv3 : inR v3) (hR : RC w y g n m) : Rf (fun a b => RI a b) (M_Layout_wordColorAt 1661 xv1 xv2 xv3 g) (N_Layout_wordColorAt v1 v2 v3 n) := by
  subst ev1
  subst ev2
  subst ev3
  unfold M_Layout_wordColorAt N_Layout_wordColorAt
  refine c_S hR hw (sK5 hR hw) (by decide) (show srf 5 0 2 = some 1662 from rfl) ?_
  refine s_S (p := aBx (_)) (L := 120) hR hw (sA42 hR hw) (by decide) (lA42 hR hw) rfl rfl rv1 (fun z1 z2 => srf42 z1 z2) (fun h2 => ?_)
  refine v_c (sK5 hR hw).1 ?_
  refine rf_bind (f_Layout_wordAt hw rfl (And.intro h2.1 (Int.le_of_lt h2.2)) rfl rv2 rfl rv3 hR) (fun a7 z5 h => ?_)
  obtain ⟨rfl, r6⟩ := h
  refine rf_eq rfl (e_m 1) r6 (show inR (-1) by decide) ?_ ?_
  · exact rf_ok (by exact ⟨(e_m 1), (show inR (-1) by decide)⟩)
  · refine c_D (s := 5) hR (sK5 hR hw) rfl rfl rfl (fun h10 => ?_)
    refine rf_ck (fun h11 => ?_)
    refine rf_ck (fun h12 => ?_)
    refine d_I hR h10 (e_add (e_mul rfl (e_n 6)) (e_n 1)) h12 (fun h13 h14 => ?_)
    refine c_D (s := 5) hR (sK5 hR hw) rfl rfl rfl (fun h15 => ?_)
    refine rf_ck (fun h16 => ?_)
    refine rf_ck (fun h17 => ?_)
    refine d_I hR h15 (e_add (e_mul rfl (e_n 6)) (e_n 3)) h17 (fun h18 h19 => ?_)
    refine rf_ck (fun h20 => ?_)
    refine c_D (s := 5) hR (sK5 hR hw) rfl rfl rfl (fun h21 => ?_)
    refine rf_ck (fun h22 => ?_)
    refine rf_ck (fun h23 => ?_)
    refine d_I hR h21 (e_add (e_mul rfl (e_n 6)) (e_n 4)) h23 (fun h24 h25 => ?_)
    refine rf_ck (fun h26 => ?_)
    refine c_S hR hw (sK5 hR hw) (by decide) (show srf 5 0 0 = some 5 from rfl) ?_
    refine c_S hR hw (sK10 hR hw) (by decide) (show srf 10 0 0 = some 6 from rfl) ?_
    refine s_S (p := aNd (_)) (L := 120) hR hw (sA20 hR hw) (by decide) (lA20 hR hw) rfl rfl rv1 (fun z1 z2 => srf20 z1 z2) (fun h29 => ?_)
    refine c_S (p := _) hR hw (ce_nd hR hw (And.intro h29.1 (Int.le_of_lt h29.2))) (Nat.lt_trans (nd_lt (And.intro h29.1 (Int.le_of_lt h29.2))).1 (by decide)) rfl ?_
    refine c_D (s := 5) hR (sK5 hR hw) rfl rfl rfl (fun h32 => ?_)
    refine rf_ck (fun h33 => ?_)
    refine rf_ck (fun h34 => ?_)
    refine d_I hR h32 (e_add (e_mul rfl (e_n 6)) (e_n 5)) h34 (fun h35 h36 => ?_)
    refine c_I (s := 11) hR (ce_bx hR hw (And.intro h2.1 (Int.le_of_lt h2.2))) rfl rfl (fun h37 => ?_)
    refine rf_bind (f_Layout_isLetterOn hw rfl (by5 (And.intro h29.1 (Int.le_of_lt h29.2))) rfl h14 rfl h36 rfl h37 (e_sub rfl rfl) h20 (e_sub rfl rfl) h26 hR) (fun a41 z39 h => ?_)
    obtain ⟨rfl, r40⟩ := h
    refine rf_eq rfl (e_n 0) (inZ.r r40) (show inR 0 by decide) ?_ ?_
    · exact rf_ok (by exact ⟨(e_m 1), (show inR (-1) by decide)⟩)
    · refine c_I (s := 9) hR (ce_bx hR hw (And.intro h2.1 (Int.le_of_lt h2.2))) rfl rfl (fun h44 => ?_)
      exact rf_ok (by exact ⟨rfl, h44⟩)
noncomputable def nk_Layout_colorAt_107 (v1 : Int) (v2 : Int) (v3 : Int) (v5 : Int) (n : NS) : Option ((Int × NS) ⊕ ((Int × NS) ⊕ (NS))) :=
  if v5 = (-1) then
    ck (v3 + (-1)) <|
    some (.inl (v3 + (-1), n))
  else
    some (.inr (.inl (v5, n)))
theorem fk_Layout_colorAt_107 {w y : Prop} {g : g_S} {n : NS} {m : YS} (hw : w) {xv1 : Int32} {v1 : Int} (ev1 : xv1 = Int32.ofInt v1) (rv1 : inR v1) {xv2 : Int32} {v2 : Int} (ev2 : xv2 = Int32.ofInt v2) (rv2 : inR v2) {xv3 : Int32} {v3 : Int} (ev3 : xv3 = Int32.ofInt v3) (rv3 : inR v3) {xv5 : Int32} {v5 : Int} (ev5 : xv5 = Int32.ofInt v5) (rv5 : inR v5) (hR : RC w y g n m) : Rf (RS (fun a b => RI a.1 b.1 ∧ RC w y a.2 b.2 m) (RS (fun a b => RI a.1 b.1 ∧ RC w y a.2 b.2 m) (fun a b => RC w y a b m))) (k_Layout_colorAt_107 1661 xv1 xv2 xv3 xv5 g) (nk_Layout_colorAt_107 v1 v2 v3 v5 n) := by
  subst ev1
  subst ev2
  subst ev3
  subst ev5
  unfold k_Layout_colorAt_107 nk_Layout_colorAt_107
  refine rf_eq rfl (e_m 1) rv5 (show inR (-1) by decide) ?_ ?_
  · refine rf_ck (fun h2 => ?_)
    exact rf_ok (by exact ⟨⟨(e_add rfl (e_m 1)), h2⟩, hR⟩)
  · exact rf_ok (by exact ⟨⟨rfl, rv5⟩, hR⟩)
noncomputable def nb_Layout_colorAt_10 (v1 : Int) (v2 : Int) (v3 : Int) (n : NS) : Option ((Int × NS) ⊕ ((Int × NS) ⊕ (NS))) :=
  if v3 < 0 then
    some (.inr (.inr n))
  else
    ix v3 120 <|
    ix (n 22 0 v3) 120 <|
    if (n 3 (n 22 0 v3) 0) = 1 then
      ix (n 22 0 v3) 120 <|
      (N_Box_colorAt (n 22 0 v3) v1 v2 n).bind fun z15 =>
      nk_Layout_colorAt_107 v1 v2 v3 z15 n
    else if (n 3 (n 22 0 v3) 0) = 2 then
      (N_Layout_pieceColorAt (n 22 0 v3) v1 v2 n).bind <| u2 fun z19 n22 =>
      nk_Layout_colorAt_107 v1 v2 v3 z19 n22
    else if (n 3 (n 22 0 v3) 0) = 3 then
      (N_Layout_wordColorAt (n 22 0 v3) v1 v2 n).bind fun z26 =>
      nk_Layout_colorAt_107 v1 v2 v3 z26 n
    else
      nk_Layout_colorAt_107 v1 v2 v3 (-1) n
theorem fb_Layout_colorAt_10 {w y : Prop} {g : g_S} {n : NS} {m : YS} (hw : w) {xv1 : Int32} {v1 : Int} (ev1 : xv1 = Int32.ofInt v1) (rv1 : inR v1) {xv2 : Int32} {v2 : Int} (ev2 : xv2 = Int32.ofInt v2) (rv2 : inR v2) {xv3 : Int32} {v3 : Int} (ev3 : xv3 = Int32.ofInt v3) (rv3 : inR v3) (hR : RC w y g n m) : Rf (RS (fun a b => RI a.1 b.1 ∧ RC w y a.2 b.2 m) (RS (fun a b => RI a.1 b.1 ∧ RC w y a.2 b.2 m) (fun a b => RC w y a b m))) (b_Layout_colorAt_10 1661 xv1 xv2 xv3 g) (nb_Layout_colorAt_10 v1 v2 v3 n) := by
  subst ev1
  subst ev2
  subst ev3
  unfold b_Layout_colorAt_10 nb_Layout_colorAt_10
  refine rf_lt rfl (e_n 0) rv3 (show inR 0 by decide) ?_ ?_
  · exact rf_ok (by exact hR)
  · refine c_S hR hw (sK5 hR hw) (by decide) (show srf 5 0 0 = some 5 from rfl) ?_
    refine c_S hR hw (sK10 hR hw) (by decide) (show srf 10 0 2 = some 8 from rfl) ?_
    refine s_I (L := 120) hR (sA22 hR hw) rfl (lA22 hR hw) rfl rfl rv3 (fun h4 h5 => ?_)
    refine c_S hR hw (sK5 hR hw) (by decide) (show srf 5 0 2 = some 1662 from rfl) ?_
    refine s_S (p := aBx (_)) (L := 120) hR hw (sA42 hR hw) (by decide) (lA42 hR hw) rfl rfl h5 (fun z1 z2 => srf42 z1 z2) (fun h7 => ?_)
    refine c_I (s := 0) hR (ce_bx hR hw (And.intro h7.1 (Int.le_of_lt h7.2))) rfl rfl (fun h9 => ?_)
    refine rf_eq rfl (e_n 1) h9 (show inR 1 by decide) ?_ ?_
    · refine c_S hR hw (sK5 hR hw) (by decide) (show srf 5 0 2 = some 1662 from rfl) ?_
      refine s_S (p := aBx (_)) (L := 120) hR hw (sA42 hR hw) (by decide) (lA42 hR hw) rfl rfl h5 (fun z1 z2 => srf42 z1 z2) (fun h12 => ?_)
      refine v_c (ce_bx hR hw (And.intro h12.1 (Int.le_of_lt h12.2))).1 ?_
      refine rf_bind (f_Box_colorAt hw rfl (And.intro h12.1 (Int.le_of_lt h12.2)) rfl rv1 rfl rv2 hR) (fun a17 z15 h => ?_)
      obtain ⟨rfl, r16⟩ := h
      exact fk_Layout_colorAt_107 hw rfl rv1 rfl rv2 rfl rv3 rfl r16 hR
    refine rf_eq rfl (e_n 2) h9 (show inR 2 by decide) ?_ ?_
    · refine v_c2 (sK5 hR hw).1 ?_
      refine rf_c2 (f_Layout_pieceColorAt hw rfl h5 rfl rv1 rfl rv2 hR) (fun a21 g24 b h => ?_)
      obtain ⟨z19, n22⟩ := b
      refine rf_v2 ?_
      obtain ⟨rfl, r20⟩ := (show RI a21 z19 from h.1)
      have hR23 : RC w y g24 n22 m := h.2
      exact fk_Layout_colorAt_107 hw rfl rv1 rfl rv2 rfl rv3 rfl r20 hR23
    refine rf_eq rfl (e_n 3) h9 (show inR 3 by decide) ?_ ?_
    · refine v_c (sK5 hR hw).1 ?_
      refine rf_bind (f_Layout_wordColorAt hw rfl h5 rfl rv1 rfl rv2 hR) (fun a28 z26 h => ?_)
      obtain ⟨rfl, r27⟩ := h
      exact fk_Layout_colorAt_107 hw rfl rv1 rfl rv2 rfl rv3 rfl r27 hR
    exact fk_Layout_colorAt_107 hw rfl rv1 rfl rv2 rfl rv3 (e_m 1) (show inR (-1) by decide) hR
noncomputable def NL_Layout_colorAt_10 (v1 : Int) (v2 : Int) (v3 : Int) (n : NS) : Option ((Int × NS) ⊕ (NS)) :=
  it (fun s : Int × NS => nb_Layout_colorAt_10 v1 v2 s.1 s.2) (v3, n)
theorem fL_Layout_colorAt_10 {w y : Prop} {g : g_S} {n : NS} {m : YS} (hw : w) {xv1 : Int32} {v1 : Int} (ev1 : xv1 = Int32.ofInt v1) (rv1 : inR v1) {xv2 : Int32} {v2 : Int} (ev2 : xv2 = Int32.ofInt v2) (rv2 : inR v2) {xv3 : Int32} {v3 : Int} (ev3 : xv3 = Int32.ofInt v3) (rv3 : inR v3) (hR : RC w y g n m) : Rf (RS (fun a b => RI a.1 b.1 ∧ RC w y a.2 b.2 m) (fun a b => RC w y a b m)) (L_Layout_colorAt_10 1661 xv1 xv2 xv3 g) (NL_Layout_colorAt_10 v1 v2 v3 n) := by
  subst ev1
  subst ev2
  subst ev3
  unfold L_Layout_colorAt_10 NL_Layout_colorAt_10
  refine rf_it (I := (fun a b => RI a.1 b.1 ∧ RC w y a.2 b.2 m)) (fun s t h => ?_) ⟨⟨rfl, rv3⟩, hR⟩
  exact fb_Layout_colorAt_10 hw rfl rv1 rfl rv2 h.1.1 h.1.2 h.2
theorem NL_Layout_colorAt_10_eq (v1 : Int) (v2 : Int) (v3 : Int) (n : NS) : NL_Layout_colorAt_10 v1 v2 v3 n = itc (nb_Layout_colorAt_10 v1 v2 v3 n) (fun s => NL_Layout_colorAt_10 v1 v2 s.1 s.2) := it_eq2 (fun s : Int × NS => nb_Layout_colorAt_10 v1 v2 s.1 s.2) (v3, n)
noncomputable def N_Layout_colorAt (v1 : Int) (v2 : Int) (n : NS) : Option (Int × NS) :=
  ck ((n 10 0 3) - 1) <|
  (NL_Layout_colorAt_10 v1 v2 ((n 10 0 3) - 1) n).bind <|
    us (u2 fun z4 n5 =>
    some (z4, n5))
    (fun n11 =>
    some (0, n11))
theorem f_Layout_colorAt {w y : Prop} {g : g_S} {n : NS} {m : YS} (hw : w) {xv1 : Int32} {v1 : Int} (ev1 : xv1 = Int32.ofInt v1) (rv1 : inR v1) {xv2 : Int32} {v2 : Int} (ev2 : xv2 = Int32.ofInt v2) (rv2 : inR v2) (hR : RC w y g n m) : Rf (fun a b => RI a.1 b.1 ∧ RC w y a.2 b.2 m) (M_Layout_colorAt 1661 xv1 xv2 g) (N_Layout_colorAt v1 v2 n) := by
  subst ev1
  subst ev2
  unfold M_Layout_colorAt N_Layout_colorAt
  refine c_S hR hw (sK5 hR hw) (by decide) (show srf 5 0 0 = some 5 from rfl) ?_
  refine c_I (s := 3) hR (sK10 hR hw) rfl rfl (fun h2 => ?_)
  refine rf_ck (fun h3 => ?_)
  refine rf_bind (fL_Layout_colorAt_10 hw rfl rv1 rfl rv2 (e_sub rfl (e_n 1)) h3 hR) (fun a b h => rf_us h (fun a b h => ?_) (fun a12 n11 h => ?_))
  · obtain ⟨a6, a7⟩ := a
    obtain ⟨z4, n5⟩ := b
    refine rf_u2 ?_
    obtain ⟨rfl, r9⟩ := (show RI a6 z4 from h.1)
    have hR8 : RC w y a7 n5 m := h.2
    exact rf_ok (by exact ⟨⟨rfl, r9⟩, hR8⟩)
  · have hR13 : RC w y a12 n11 m := h
    exact rf_ok (by exact ⟨⟨(e_n 0), (show inR 0 by decide)⟩, hR13⟩)
noncomputable def N_H_point (v1 : Int) (v2 : Int) (n : NS) : Option (Int × NS) :=
  (N_Sheet_refresh n).bind fun n3 =>
  (N_Layout_refresh n3).bind fun n8 =>
  (N_Layout_isInPicture v1 v2 n8).bind fun z13 =>
  if z13 = 0 then
    some ((-1), n8)
  else
    (N_Layout_colorAt v1 v2 n8).bind <| u2 fun z20 n23 =>
    some (z20, n23)
theorem f_H_point {w y : Prop} {g : g_S} {n : NS} {m : YS} (hw : w) {xv1 : Int32} {v1 : Int} (ev1 : xv1 = Int32.ofInt v1) (rv1 : inR v1) {xv2 : Int32} {v2 : Int} (ev2 : xv2 = Int32.ofInt v2) (rv2 : inR v2) (hR : RC w y g n m) : Rf (fun a b => RI a.1 b.1 ∧ RC w y a.2 b.2 m) (M_H_point 0 xv1 xv2 g) (N_H_point v1 v2 n) := by
  subst ev1
  subst ev2
  unfold M_H_point N_H_point
  refine c_S hR hw (sK11 hR hw) (by decide) (show srf 11 0 5 = some 1650 from rfl) ?_
  refine v_c (sK9 hR hw).1 ?_
  refine rf_bind (f_Sheet_refresh hw hR) (fun g5 n3 hR4 => ?_)
  refine c_S hR4 hw (sK11 hR4 hw) (by decide) (show srf 11 0 6 = some 1661 from rfl) ?_
  refine v_c (sK5 hR4 hw).1 ?_
  refine rf_bind (f_Layout_refresh hw hR4) (fun g10 n8 hR9 => ?_)
  refine c_S hR9 hw (sK11 hR9 hw) (by decide) (show srf 11 0 6 = some 1661 from rfl) ?_
  refine v_c (sK5 hR9 hw).1 ?_
  refine rf_bind (f_Layout_isInPicture hw rfl rv1 rfl rv2 hR9) (fun a15 z13 h => ?_)
  obtain ⟨rfl, r14⟩ := h
  refine rf_eq rfl (e_n 0) (inZ.r r14) (show inR 0 by decide) ?_ ?_
  · exact rf_ok (by exact ⟨⟨(e_m 1), (show inR (-1) by decide)⟩, hR9⟩)
  · refine c_S hR9 hw (sK11 hR9 hw) (by decide) (show srf 11 0 6 = some 1661 from rfl) ?_
    refine v_c2 (sK5 hR9 hw).1 ?_
    refine rf_c2 (f_Layout_colorAt hw rfl rv1 rfl rv2 hR9) (fun a22 g25 b h => ?_)
    obtain ⟨z20, n23⟩ := b
    refine rf_v2 ?_
    obtain ⟨rfl, r21⟩ := (show RI a22 z20 from h.1)
    have hR24 : RC w y g25 n23 m := h.2
    exact rf_ok (by exact ⟨⟨rfl, r21⟩, hR24⟩)
noncomputable def nk_Layout_nodeAt_67 (v1 : Int) (v2 : Int) (v3 : Int) (v4 : Int) (v5 : Int) (n : NS) : Option ((Int) ⊕ ((Int) ⊕ (Int) ⊕ (Unit))) :=
  if (n 3 v5 0) = 3 then
    (N_Layout_wordAt v5 v1 v2 n).bind fun z4 =>
    if z4 = (-1) then
      ck (v3 + (-1)) <|
      some (.inl (v3 + (-1)))
    else
      some (.inr (.inr (.inl v4)))
  else
    ck (v3 + (-1)) <|
    some (.inl (v3 + (-1)))
theorem fk_Layout_nodeAt_67 {w y : Prop} {g : g_S} {n : NS} {m : YS} (hw : w) {xv1 : Int32} {v1 : Int} (ev1 : xv1 = Int32.ofInt v1) (rv1 : inR v1) {xv2 : Int32} {v2 : Int} (ev2 : xv2 = Int32.ofInt v2) (rv2 : inR v2) {xv3 : Int32} {v3 : Int} (ev3 : xv3 = Int32.ofInt v3) (rv3 : inR v3) {xv4 : Int32} {v4 : Int} (ev4 : xv4 = Int32.ofInt v4) (rv4 : inR v4) {xv5 : Nat} {v5 : Int} (ev5 : xv5 = aBx v5) (rv5 : 0 ≤ v5 ∧ v5 ≤ 120) (hR : RC w y g n m) : Rf (RS (fun a b => RI a b) (RS (fun a b => RI a b) (RS (fun a b => RI a b) (fun _ _ => True)))) (k_Layout_nodeAt_67 1661 xv1 xv2 xv3 xv4 xv5 g) (nk_Layout_nodeAt_67 v1 v2 v3 v4 v5 n) := by
  subst ev1
  subst ev2
  subst ev3
  subst ev4
  subst ev5
  unfold k_Layout_nodeAt_67 nk_Layout_nodeAt_67
  refine c_I (s := 0) hR (ce_bx hR hw rv5) rfl rfl (fun h1 => ?_)
  refine rf_eq rfl (e_n 3) h1 (show inR 3 by decide) ?_ ?_
  · refine v_c (sK5 hR hw).1 ?_
    refine rf_bind (f_Layout_wordAt hw rfl rv5 rfl rv1 rfl rv2 hR) (fun a6 z4 h => ?_)
    obtain ⟨rfl, r5⟩ := h
    refine rf_eq rfl (e_m 1) r5 (show inR (-1) by decide) ?_ ?_
    · refine rf_ck (fun h8 => ?_)
      exact rf_ok (by exact ⟨(e_add rfl (e_m 1)), h8⟩)
    · exact rf_ok (by exact ⟨rfl, rv4⟩)
  · refine rf_ck (fun h9 => ?_)
    exact rf_ok (by exact ⟨(e_add rfl (e_m 1)), h9⟩)
noncomputable def nb_Layout_nodeAt_21 (v1 : Int) (v2 : Int) (v3 : Int) (n : NS) : Option ((Int) ⊕ ((Int) ⊕ (Int) ⊕ (Unit))) :=
  if v3 < 0 then
    some (.inr (.inr (.inr ())))
  else
    ix v3 120 <|
    ix (n 22 0 v3) 120 <|
    (N_Box_isPainted (n 22 0 v3) n).bind fun z10 =>
    if z10 = 0 then
      nk_Layout_nodeAt_67 v1 v2 v3 (n 22 0 v3) (n 22 0 v3) n
    else
      (N_Box_holds (n 22 0 v3) v1 v2 0 n).bind fun z15 =>
      if z15 = 0 then
        nk_Layout_nodeAt_67 v1 v2 v3 (n 22 0 v3) (n 22 0 v3) n
      else
        some (.inr (.inl (n 22 0 v3)))
theorem fb_Layout_nodeAt_21 {w y : Prop} {g : g_S} {n : NS} {m : YS} (hw : w) {xv1 : Int32} {v1 : Int} (ev1 : xv1 = Int32.ofInt v1) (rv1 : inR v1) {xv2 : Int32} {v2 : Int} (ev2 : xv2 = Int32.ofInt v2) (rv2 : inR v2) {xv3 : Int32} {v3 : Int} (ev3 : xv3 = Int32.ofInt v3) (rv3 : inR v3) (hR : RC w y g n m) : Rf (RS (fun a b => RI a b) (RS (fun a b => RI a b) (RS (fun a b => RI a b) (fun _ _ => True)))) (b_Layout_nodeAt_21 1661 xv1 xv2 xv3 g) (nb_Layout_nodeAt_21 v1 v2 v3 n) := by
  subst ev1
  subst ev2
  subst ev3
  unfold b_Layout_nodeAt_21 nb_Layout_nodeAt_21
  refine rf_lt rfl (e_n 0) rv3 (show inR 0 by decide) ?_ ?_
  · exact rf_ok (by exact trivial)
  · refine c_S hR hw (sK5 hR hw) (by decide) (show srf 5 0 0 = some 5 from rfl) ?_
    refine c_S hR hw (sK10 hR hw) (by decide) (show srf 10 0 2 = some 8 from rfl) ?_
    refine s_I (L := 120) hR (sA22 hR hw) rfl (lA22 hR hw) rfl rfl rv3 (fun h4 h5 => ?_)
    refine c_S hR hw (sK5 hR hw) (by decide) (show srf 5 0 2 = some 1662 from rfl) ?_
    refine s_S (p := aBx (_)) (L := 120) hR hw (sA42 hR hw) (by decide) (lA42 hR hw) rfl rfl h5 (fun z1 z2 => srf42 z1 z2) (fun h7 => ?_)
    refine v_c (ce_bx hR hw (And.intro h7.1 (Int.le_of_lt h7.2))).1 ?_
    refine rf_bind (f_Box_isPainted hw rfl (And.intro h7.1 (Int.le_of_lt h7.2)) hR) (fun a12 z10 h => ?_)
    obtain ⟨rfl, r11⟩ := h
    refine rf_eq rfl (e_n 0) (inZ.r r11) (show inR 0 by decide) ?_ ?_
    · exact fk_Layout_nodeAt_67 hw rfl rv1 rfl rv2 rfl rv3 rfl h5 rfl (And.intro h7.1 (Int.le_of_lt h7.2)) hR
    · refine v_c (ce_bx hR hw (And.intro h7.1 (Int.le_of_lt h7.2))).1 ?_
      refine rf_bind (f_Box_holds hw rfl (And.intro h7.1 (Int.le_of_lt h7.2)) rfl rv1 rfl rv2 (e_n 0) (show inR 0 by decide) hR) (fun a17 z15 h => ?_)
      obtain ⟨rfl, r16⟩ := h
      refine rf_eq rfl (e_n 0) (inZ.r r16) (show inR 0 by decide) ?_ ?_
      · exact fk_Layout_nodeAt_67 hw rfl rv1 rfl rv2 rfl rv3 rfl h5 rfl (And.intro h7.1 (Int.le_of_lt h7.2)) hR
      · exact rf_ok (by exact ⟨rfl, h5⟩)
noncomputable def NL_Layout_nodeAt_21 (v1 : Int) (v2 : Int) (v3 : Int) (n : NS) : Option ((Int) ⊕ (Int) ⊕ (Unit)) :=
  it (fun s : Int => nb_Layout_nodeAt_21 v1 v2 s n) (v3)
theorem fL_Layout_nodeAt_21 {w y : Prop} {g : g_S} {n : NS} {m : YS} (hw : w) {xv1 : Int32} {v1 : Int} (ev1 : xv1 = Int32.ofInt v1) (rv1 : inR v1) {xv2 : Int32} {v2 : Int} (ev2 : xv2 = Int32.ofInt v2) (rv2 : inR v2) {xv3 : Int32} {v3 : Int} (ev3 : xv3 = Int32.ofInt v3) (rv3 : inR v3) (hR : RC w y g n m) : Rf (RS (fun a b => RI a b) (RS (fun a b => RI a b) (fun _ _ => True))) (L_Layout_nodeAt_21 1661 xv1 xv2 xv3 g) (NL_Layout_nodeAt_21 v1 v2 v3 n) := by
  subst ev1
  subst ev2
  subst ev3
  unfold L_Layout_nodeAt_21 NL_Layout_nodeAt_21
  refine rf_it (I := (fun a b => RI a b)) (fun s t h => ?_) ⟨rfl, rv3⟩
  exact fb_Layout_nodeAt_21 hw rfl rv1 rfl rv2 h.1 h.2 hR
theorem NL_Layout_nodeAt_21_eq (v1 : Int) (v2 : Int) (v3 : Int) (n : NS) : NL_Layout_nodeAt_21 v1 v2 v3 n = itc (nb_Layout_nodeAt_21 v1 v2 v3 n) (fun s => NL_Layout_nodeAt_21 v1 v2 s n) := it_eq2 (fun s : Int => nb_Layout_nodeAt_21 v1 v2 s n) (v3)
noncomputable def N_Layout_nodeAt (v1 : Int) (v2 : Int) (n : NS) : Option (Int) :=
  (N_Layout_isInPicture v1 v2 n).bind fun z2 =>
  if z2 = 0 then
    some (-1)
  else
    ck ((n 10 0 3) - 1) <|
    (NL_Layout_nodeAt_21 v1 v2 ((n 10 0 3) - 1) n).bind <|
      us (fun z10 =>
      some z10)
      (us (fun z14 =>
      some z14)
      (fun _ =>
      some (-1)))
theorem f_Layout_nodeAt {w y : Prop} {g : g_S} {n : NS} {m : YS} (hw : w) {xv1 : Int32} {v1 : Int} (ev1 : xv1 = Int32.ofInt v1) (rv1 : inR v1) {xv2 : Int32} {v2 : Int} (ev2 : xv2 = Int32.ofInt v2) (rv2 : inR v2) (hR : RC w y g n m) : Rf (fun a b => RI a b) (M_Layout_nodeAt 1661 xv1 xv2 g) (N_Layout_nodeAt v1 v2 n) := by
  subst ev1
  subst ev2
  unfold M_Layout_nodeAt N_Layout_nodeAt
  refine v_c (sK5 hR hw).1 ?_
  refine rf_bind (f_Layout_isInPicture hw rfl rv1 rfl rv2 hR) (fun a4 z2 h => ?_)
  obtain ⟨rfl, r3⟩ := h
  refine rf_eq rfl (e_n 0) (inZ.r r3) (show inR 0 by decide) ?_ ?_
  · exact rf_ok (by exact ⟨(e_m 1), (show inR (-1) by decide)⟩)
  · refine c_S hR hw (sK5 hR hw) (by decide) (show srf 5 0 0 = some 5 from rfl) ?_
    refine c_I (s := 3) hR (sK10 hR hw) rfl rfl (fun h8 => ?_)
    refine rf_ck (fun h9 => ?_)
    refine rf_bind (fL_Layout_nodeAt_21 hw rfl rv1 rfl rv2 (e_sub rfl (e_n 1)) h9 hR) (fun a b h => rf_us h (fun a11 z10 h => ?_) (fun a b h => rf_us h (fun a15 z14 h => ?_) (fun a b h => ?_)))
    · obtain ⟨rfl, r12⟩ := (show RI a11 z10 from h)
      exact rf_ok (by exact ⟨rfl, r12⟩)
    · obtain ⟨rfl, r16⟩ := (show RI a15 z14 from h)
      exact rf_ok (by exact ⟨rfl, r16⟩)
    · exact rf_ok (by exact ⟨(e_m 1), (show inR (-1) by decide)⟩)
noncomputable def N_H_top (v1 : Int) (v2 : Int) (n : NS) : Option (Int × NS) :=
  (N_Sheet_refresh n).bind fun n3 =>
  (N_Layout_refresh n3).bind fun n8 =>
  (N_Layout_nodeAt v1 v2 n8).bind fun z13 =>
  some (z13, n8)
theorem f_H_top {w y : Prop} {g : g_S} {n : NS} {m : YS} (hw : w) {xv1 : Int32} {v1 : Int} (ev1 : xv1 = Int32.ofInt v1) (rv1 : inR v1) {xv2 : Int32} {v2 : Int} (ev2 : xv2 = Int32.ofInt v2) (rv2 : inR v2) (hR : RC w y g n m) : Rf (fun a b => RI a.1 b.1 ∧ RC w y a.2 b.2 m) (M_H_top 0 xv1 xv2 g) (N_H_top v1 v2 n) := by
  subst ev1
  subst ev2
  unfold M_H_top N_H_top
  refine c_S hR hw (sK11 hR hw) (by decide) (show srf 11 0 5 = some 1650 from rfl) ?_
  refine v_c (sK9 hR hw).1 ?_
  refine rf_bind (f_Sheet_refresh hw hR) (fun g5 n3 hR4 => ?_)
  refine c_S hR4 hw (sK11 hR4 hw) (by decide) (show srf 11 0 6 = some 1661 from rfl) ?_
  refine v_c (sK5 hR4 hw).1 ?_
  refine rf_bind (f_Layout_refresh hw hR4) (fun g10 n8 hR9 => ?_)
  refine c_S hR9 hw (sK11 hR9 hw) (by decide) (show srf 11 0 6 = some 1661 from rfl) ?_
  refine v_c (sK5 hR9 hw).1 ?_
  refine rf_bind (f_Layout_nodeAt hw rfl rv1 rfl rv2 hR9) (fun a15 z13 h => ?_)
  obtain ⟨rfl, r14⟩ := h
  exact rf_ok (by exact ⟨⟨rfl, r14⟩, hR9⟩)
noncomputable def nb_Acts_startEvent_17 (v3 : Int) (n : NS) : Option ((Int × NS) ⊕ (NS)) :=
  if v3 = (-1) then
    some (.inr n)
  else
    if (n 0 0 16) < 120 then
      (N_Tree_markOf v3 n).bind fun z8 =>
      ix (n 0 0 16) 120 <|
      st (nw n 46 0 (n 0 0 16) z8) fun n12 =>
      ck ((n12 0 0 16) + 1) <|
      st (nw n12 0 0 16 ((n12 0 0 16) + 1)) fun n18 =>
      ix v3 120 <|
      some (.inl ((n18 7 v3 2), n18))
    else
      some (.inr n)
theorem fb_Acts_startEvent_17 {w y : Prop} {g : g_S} {n : NS} {m : YS} (hw : w) {xv3 : Int32} {v3 : Int} (ev3 : xv3 = Int32.ofInt v3) (rv3 : inR v3) (hR : RC w y g n m) : Rf (RS (fun a b => RI a.1 b.1 ∧ RC w y a.2 b.2 m) (fun a b => RC w y a b m)) (b_Acts_startEvent_17 1789 xv3 g) (nb_Acts_startEvent_17 v3 n) := by
  subst ev3
  unfold b_Acts_startEvent_17 nb_Acts_startEvent_17
  refine rf_eq rfl (e_m 1) rv3 (show inR (-1) by decide) ?_ ?_
  · exact rf_ok (by exact hR)
  · refine c_I (s := 16) hR (sK0 hR hw) rfl rfl (fun h2 => ?_)
    refine rf_lt rfl (e_n 120) h2 (show inR 120 by decide) ?_ ?_
    · refine c_S hR hw (sK0 hR hw) (by decide) (show srf 0 0 14 = some 1794 from rfl) ?_
      refine c_I (s := 16) hR (sK0 hR hw) rfl rfl (fun h5 => ?_)
      refine c_S hR hw (sK0 hR hw) (by decide) (show srf 0 0 0 = some 5 from rfl) ?_
      refine v_c (sK10 hR hw).1 ?_
      refine rf_bind (f_Tree_markOf hw rfl rv3 hR) (fun a10 z8 h => ?_)
      obtain ⟨rfl, r9⟩ := h
      refine t_L (L := 120) hR (sA46 hR hw) (lA46 hR hw) rfl rfl h5 rfl r9 (fun g14 n12 hR13 => ?_)
      refine c_I (s := 16) hR13 (sK0 hR13 hw) rfl rfl (fun h15 => ?_)
      refine rf_ck (fun h16 => ?_)
      refine p_I (s := 16) hR13 (sK0 hR13 hw) rfl ⟨rfl, rfl, by decide⟩ (e_add rfl (e_n 1)) h16 (fun g20 n18 hR19 => ?_)
      refine c_S hR19 hw (sK0 hR19 hw) (by decide) (show srf 0 0 0 = some 5 from rfl) ?_
      refine c_S hR19 hw (sK10 hR19 hw) (by decide) (show srf 10 0 0 = some 6 from rfl) ?_
      refine s_S (p := aNd (_)) (L := 120) hR19 hw (sA20 hR19 hw) (by decide) (lA20 hR19 hw) rfl rfl rv3 (fun z1 z2 => srf20 z1 z2) (fun h23 => ?_)
      refine c_I (s := 2) hR19 (ce_nd hR19 hw (And.intro h23.1 (Int.le_of_lt h23.2))) rfl rfl (fun h25 => ?_)
      exact rf_ok (by exact ⟨⟨rfl, h25⟩, hR19⟩)
    · exact rf_ok (by exact hR)
noncomputable def NL_Acts_startEvent_17 (v3 : Int) (n : NS) : Option (NS) :=
  it (fun s : Int × NS => nb_Acts_startEvent_17 s.1 s.2) (v3, n)
theorem fL_Acts_startEvent_17 {w y : Prop} {g : g_S} {n : NS} {m : YS} (hw : w) {xv3 : Int32} {v3 : Int} (ev3 : xv3 = Int32.ofInt v3) (rv3 : inR v3) (hR : RC w y g n m) : Rf (fun a b => RC w y a b m) (L_Acts_startEvent_17 1789 xv3 g) (NL_Acts_startEvent_17 v3 n) := by
  subst ev3
  unfold L_Acts_startEvent_17 NL_Acts_startEvent_17
  refine rf_it (I := (fun a b => RI a.1 b.1 ∧ RC w y a.2 b.2 m)) (fun s t h => ?_) ⟨⟨rfl, rv3⟩, hR⟩
  exact fb_Acts_startEvent_17 hw h.1.1 h.1.2 h.2
theorem NL_Acts_startEvent_17_eq (v3 : Int) (n : NS) : NL_Acts_startEvent_17 v3 n = itc (nb_Acts_startEvent_17 v3 n) (fun s => NL_Acts_startEvent_17 s.1 s.2) := it_eq2 (fun s : Int × NS => nb_Acts_startEvent_17 s.1 s.2) (v3, n)
noncomputable def N_Acts_startEvent (v1 : Int) (v2 : Int) (n : NS) : Option (NS) :=
  st (nw n 0 0 18 v2) fun n2 =>
  st (nw n2 0 0 15 0) fun n6 =>
  st (nw n6 0 0 16 0) fun n10 =>
  (NL_Acts_startEvent_17 v1 n10).bind <| fun n13 =>
  some n13
theorem f_Acts_startEvent {w y : Prop} {g : g_S} {n : NS} {m : YS} (hw : w) {xv1 : Int32} {v1 : Int} (ev1 : xv1 = Int32.ofInt v1) (rv1 : inR v1) {xv2 : Int32} {v2 : Int} (ev2 : xv2 = Int32.ofInt v2) (rv2 : inR v2) (hR : RC w y g n m) : Rf (fun a b => RC w y a b m) (M_Acts_startEvent 1789 xv1 xv2 g) (N_Acts_startEvent v1 v2 n) := by
  subst ev1
  subst ev2
  unfold M_Acts_startEvent N_Acts_startEvent
  refine p_I (s := 18) hR (sK0 hR hw) rfl ⟨rfl, rfl, by decide⟩ rfl rv2 (fun g4 n2 hR3 => ?_)
  refine p_I (s := 15) hR3 (sK0 hR3 hw) rfl ⟨rfl, rfl, by decide⟩ (e_n 0) (show inR 0 by decide) (fun g8 n6 hR7 => ?_)
  refine p_I (s := 16) hR7 (sK0 hR7 hw) rfl ⟨rfl, rfl, by decide⟩ (e_n 0) (show inR 0 by decide) (fun g12 n10 hR11 => ?_)
  refine rf_bind (fL_Acts_startEvent_17 hw rfl rv1 hR11) (fun a14 n13 h => ?_)
  have hR15 : RC w y a14 n13 m := h
  exact rf_ok (by exact hR15)
noncomputable def N_H_press (v1 : Int) (v2 : Int) (n : NS) : Option (Int × NS) :=
  (N_Sheet_refresh n).bind fun n3 =>
  (N_Layout_refresh n3).bind fun n8 =>
  (N_Layout_nodeAt v1 v2 n8).bind fun z13 =>
  if z13 = (-1) then
    some (z13, n8)
  else
    (N_Acts_begin n8).bind fun n20 =>
    (N_Acts_startEvent z13 (-1) n20).bind fun n25 =>
    (N_Acts_settle n25).bind fun n30 =>
    some (z13, n30)
theorem f_H_press {w y : Prop} {g : g_S} {n : NS} {m : YS} (hw : w) {xv1 : Int32} {v1 : Int} (ev1 : xv1 = Int32.ofInt v1) (rv1 : inR v1) {xv2 : Int32} {v2 : Int} (ev2 : xv2 = Int32.ofInt v2) (rv2 : inR v2) (hR : RC w y g n m) : Rf (fun a b => RI a.1 b.1 ∧ RC w y a.2 b.2 m) (M_H_press 0 xv1 xv2 g) (N_H_press v1 v2 n) := by
  subst ev1
  subst ev2
  unfold M_H_press N_H_press
  refine c_S hR hw (sK11 hR hw) (by decide) (show srf 11 0 5 = some 1650 from rfl) ?_
  refine v_c (sK9 hR hw).1 ?_
  refine rf_bind (f_Sheet_refresh hw hR) (fun g5 n3 hR4 => ?_)
  refine c_S hR4 hw (sK11 hR4 hw) (by decide) (show srf 11 0 6 = some 1661 from rfl) ?_
  refine v_c (sK5 hR4 hw).1 ?_
  refine rf_bind (f_Layout_refresh hw hR4) (fun g10 n8 hR9 => ?_)
  refine c_S hR9 hw (sK11 hR9 hw) (by decide) (show srf 11 0 6 = some 1661 from rfl) ?_
  refine v_c (sK5 hR9 hw).1 ?_
  refine rf_bind (f_Layout_nodeAt hw rfl rv1 rfl rv2 hR9) (fun a15 z13 h => ?_)
  obtain ⟨rfl, r14⟩ := h
  refine rf_eq rfl (e_m 1) r14 (show inR (-1) by decide) ?_ ?_
  · exact rf_ok (by exact ⟨⟨rfl, r14⟩, hR9⟩)
  · refine c_S hR9 hw (sK11 hR9 hw) (by decide) (show srf 11 0 7 = some 1789 from rfl) ?_
    refine v_c (sK0 hR9 hw).1 ?_
    refine rf_bind (f_Acts_begin hw hR9) (fun g22 n20 hR21 => ?_)
    refine c_S hR21 hw (sK11 hR21 hw) (by decide) (show srf 11 0 7 = some 1789 from rfl) ?_
    refine v_c (sK0 hR21 hw).1 ?_
    refine rf_bind (f_Acts_startEvent hw rfl r14 (e_m 1) (show inR (-1) by decide) hR21) (fun g27 n25 hR26 => ?_)
    refine c_S hR26 hw (sK11 hR26 hw) (by decide) (show srf 11 0 7 = some 1789 from rfl) ?_
    refine v_c (sK0 hR26 hw).1 ?_
    refine rf_bind (f_Acts_settle hw hR26) (fun g32 n30 hR31 => ?_)
    exact rf_ok (by exact ⟨⟨rfl, r14⟩, hR31⟩)
noncomputable def nk_H_key_46 (v1 : Int) (v2 : Int) (n : NS) : Option (Int × NS) :=
  (N_Acts_begin n).bind fun n3 =>
  (N_Acts_startEvent v2 v1 n3).bind fun n8 =>
  (N_Acts_settle n8).bind fun n13 =>
  some (v2, n13)
theorem fk_H_key_46 {w y : Prop} {g : g_S} {n : NS} {m : YS} (hw : w) {xv1 : Int32} {v1 : Int} (ev1 : xv1 = Int32.ofInt v1) (rv1 : inR v1) {xv2 : Int32} {v2 : Int} (ev2 : xv2 = Int32.ofInt v2) (rv2 : inR v2) (hR : RC w y g n m) : Rf (fun a b => RI a.1 b.1 ∧ RC w y a.2 b.2 m) (k_H_key_46 0 xv1 xv2 g) (nk_H_key_46 v1 v2 n) := by
  subst ev1
  subst ev2
  unfold k_H_key_46 nk_H_key_46
  refine c_S hR hw (sK11 hR hw) (by decide) (show srf 11 0 7 = some 1789 from rfl) ?_
  refine v_c (sK0 hR hw).1 ?_
  refine rf_bind (f_Acts_begin hw hR) (fun g5 n3 hR4 => ?_)
  refine c_S hR4 hw (sK11 hR4 hw) (by decide) (show srf 11 0 7 = some 1789 from rfl) ?_
  refine v_c (sK0 hR4 hw).1 ?_
  refine rf_bind (f_Acts_startEvent hw rfl rv2 rfl rv1 hR4) (fun g10 n8 hR9 => ?_)
  refine c_S hR9 hw (sK11 hR9 hw) (by decide) (show srf 11 0 7 = some 1789 from rfl) ?_
  refine v_c (sK0 hR9 hw).1 ?_
  refine rf_bind (f_Acts_settle hw hR9) (fun g15 n13 hR14 => ?_)
  exact rf_ok (by exact ⟨⟨rfl, rv2⟩, hR14⟩)
noncomputable def N_H_key (v1 : Int) (n : NS) : Option (Int × NS) :=
  (N_Tree_alive (n 0 0 6) n).bind fun z5 =>
  if z5 = (-1) then
    some ((-1), n)
  else
    if v1 = 8 then
      nk_H_key_46 v1 z5 n
    else
      if v1 = 10 then
        nk_H_key_46 v1 z5 n
      else
        if v1 < 32 then
          some ((-1), n)
        else
          if 126 < v1 then
            some ((-1), n)
          else
            nk_H_key_46 v1 z5 n
theorem f_H_key {w y : Prop} {g : g_S} {n : NS} {m : YS} (hw : w) {xv1 : Int32} {v1 : Int} (ev1 : xv1 = Int32.ofInt v1) (rv1 : inR v1) (hR : RC w y g n m) : Rf (fun a b => RI a.1 b.1 ∧ RC w y a.2 b.2 m) (M_H_key 0 xv1 g) (N_H_key v1 n) := by
  subst ev1
  unfold M_H_key N_H_key
  refine c_S hR hw (sK11 hR hw) (by decide) (show srf 11 0 2 = some 5 from rfl) ?_
  refine c_S hR hw (sK11 hR hw) (by decide) (show srf 11 0 7 = some 1789 from rfl) ?_
  refine c_L (s := 6) hR (sK0 hR hw) rfl rfl (fun h3 => ?_)
  refine v_c (sK10 hR hw).1 ?_
  refine rf_bind (f_Tree_alive hw rfl h3 hR) (fun a7 z5 h => ?_)
  obtain ⟨rfl, r6⟩ := h
  refine rf_eq rfl (e_m 1) r6 (show inR (-1) by decide) ?_ ?_
  · exact rf_ok (by exact ⟨⟨(e_m 1), (show inR (-1) by decide)⟩, hR⟩)
  · refine rf_eq rfl (e_n 8) rv1 (show inR 8 by decide) ?_ ?_
    · exact fk_H_key_46 hw rfl rv1 rfl r6 hR
    · refine rf_eq rfl (e_n 10) rv1 (show inR 10 by decide) ?_ ?_
      · exact fk_H_key_46 hw rfl rv1 rfl r6 hR
      · refine rf_lt rfl (e_n 32) rv1 (show inR 32 by decide) ?_ ?_
        · exact rf_ok (by exact ⟨⟨(e_m 1), (show inR (-1) by decide)⟩, hR⟩)
        · refine rf_lt (e_n 126) rfl (show inR 126 by decide) rv1 ?_ ?_
          · exact rf_ok (by exact ⟨⟨(e_m 1), (show inR (-1) by decide)⟩, hR⟩)
          · exact fk_H_key_46 hw rfl rv1 rfl r6 hR
noncomputable def nk_H_script_60 (v1 : Int) (n : NS) : Option (Int × NS) :=
  (N_Bytes_clear 605 n).bind fun n3 =>
  some (v1, n3)
theorem fk_H_script_60 {w y : Prop} {g : g_S} {n : NS} {m : YS} (hw : w) {xv1 : Int32} {v1 : Int} (ev1 : xv1 = Int32.ofInt v1) (rv1 : inR v1) (hR : RC w y g n m) : Rf (fun a b => RI a.1 b.1 ∧ RC w y a.2 b.2 m) (k_H_script_60 0 xv1 g) (nk_H_script_60 v1 n) := by
  subst ev1
  unfold k_H_script_60 nk_H_script_60
  refine c_S hR hw (sK11 hR hw) (by decide) (show srf 11 0 0 = some 1 from rfl) ?_
  refine v_c (bS605 ▸ (ce_by hR hw (by decide))).1 ?_
  refine rf_bind (f_Bytes_clear hw bS605.symm (by decide) hR) (fun g5 n3 hR4 => ?_)
  exact rf_ok (by exact ⟨⟨rfl, rv1⟩, hR4⟩)
noncomputable def N_H_script (n : NS) : Option (Int × NS) :=
  (N_H_wrongByte n).bind fun z2 =>
  if z2 = 0 then
    (N_Acts_begin n).bind fun n10 =>
    (N_Tree_markOf 0 n10).bind fun z17 =>
    (N_Acts_startScript 605 z17 n10).bind fun n21 =>
    (N_Acts_settle n21).bind fun n26 =>
    ck ((n26 0 0 7) - (n 0 0 7)) <|
    nk_H_script_60 ((n26 0 0 7) - (n 0 0 7)) n26
  else
    nk_H_script_60 z2 n
theorem f_H_script {w y : Prop} {g : g_S} {n : NS} {m : YS} (hw : w) (hR : RC w y g n m) : Rf (fun a b => RI a.1 b.1 ∧ RC w y a.2 b.2 m) (M_H_script 0 g) (N_H_script n) := by
  unfold M_H_script N_H_script
  refine v_c (sK11 hR hw).1 ?_
  refine rf_bind (f_H_wrongByte hw hR) (fun a4 z2 h => ?_)
  obtain ⟨rfl, r3⟩ := h
  refine rf_eq rfl (e_n 0) r3 (show inR 0 by decide) ?_ ?_
  · refine c_S hR hw (sK11 hR hw) (by decide) (show srf 11 0 7 = some 1789 from rfl) ?_
    refine c_I (s := 7) hR (sK0 hR hw) rfl rfl (fun h7 => ?_)
    refine c_S hR hw (sK11 hR hw) (by decide) (show srf 11 0 7 = some 1789 from rfl) ?_
    refine v_c (sK0 hR hw).1 ?_
    refine rf_bind (f_Acts_begin hw hR) (fun g12 n10 hR11 => ?_)
    refine c_S hR11 hw (sK11 hR11 hw) (by decide) (show srf 11 0 7 = some 1789 from rfl) ?_
    refine c_S hR11 hw (sK11 hR11 hw) (by decide) (show srf 11 0 0 = some 1 from rfl) ?_
    refine c_S hR11 hw (sK11 hR11 hw) (by decide) (show srf 11 0 2 = some 5 from rfl) ?_
    refine v_c (sK10 hR11 hw).1 ?_
    refine rf_bind (f_Tree_markOf hw (e_n 0) (show inR 0 by decide) hR11) (fun a19 z17 h => ?_)
    obtain ⟨rfl, r18⟩ := h
    refine v_c (sK0 hR11 hw).1 ?_
    refine rf_bind (f_Acts_startScript hw bS605.symm (by decide) rfl r18 hR11) (fun g23 n21 hR22 => ?_)
    refine c_S hR22 hw (sK11 hR22 hw) (by decide) (show srf 11 0 7 = some 1789 from rfl) ?_
    refine v_c (sK0 hR22 hw).1 ?_
    refine rf_bind (f_Acts_settle hw hR22) (fun g28 n26 hR27 => ?_)
    refine c_S hR27 hw (sK11 hR27 hw) (by decide) (show srf 11 0 7 = some 1789 from rfl) ?_
    refine c_I (s := 7) hR27 (sK0 hR27 hw) rfl rfl (fun h30 => ?_)
    refine rf_ck (fun h31 => ?_)
    exact fk_H_script_60 hw (e_sub rfl rfl) h31 hR27
  · exact fk_H_script_60 hw rfl r3 hR
noncomputable def N_H_isInput (v1 : Int) (n : NS) : Option (Int) :=
  (N_H_isNode v1 n).bind fun z2 =>
  if z2 = 0 then
    some 0
  else
    ix v1 120 <|
    if (n 7 v1 0) = 13 then
      some 1
    else
      some 0
theorem f_H_isInput {w y : Prop} {g : g_S} {n : NS} {m : YS} (hw : w) {xv1 : Int32} {v1 : Int} (ev1 : xv1 = Int32.ofInt v1) (rv1 : inR v1) (hR : RC w y g n m) : Rf (fun a b => RZ a b) (M_H_isInput 0 xv1 g) (N_H_isInput v1 n) := by
  subst ev1
  unfold M_H_isInput N_H_isInput
  refine v_c (sK11 hR hw).1 ?_
  refine rf_bind (f_H_isNode hw rfl rv1 hR) (fun a4 z2 h => ?_)
  obtain ⟨rfl, r3⟩ := h
  refine rf_eq rfl (e_n 0) (inZ.r r3) (show inR 0 by decide) ?_ ?_
  · exact rf_ok (by exact ⟨(e_n 0), (.inl rfl)⟩)
  · refine c_S hR hw (sK11 hR hw) (by decide) (show srf 11 0 2 = some 5 from rfl) ?_
    refine c_S hR hw (sK10 hR hw) (by decide) (show srf 10 0 0 = some 6 from rfl) ?_
    refine s_S (p := aNd (_)) (L := 120) hR hw (sA20 hR hw) (by decide) (lA20 hR hw) rfl rfl rv1 (fun z1 z2 => srf20 z1 z2) (fun h9 => ?_)
    refine c_I (s := 0) hR (ce_nd hR hw (And.intro h9.1 (Int.le_of_lt h9.2))) rfl rfl (fun h11 => ?_)
    refine rf_eq rfl (e_n 13) h11 (show inR 13 by decide) ?_ ?_
    · exact rf_ok (by exact ⟨(e_n 1), (.inr rfl)⟩)
    · exact rf_ok (by exact ⟨(e_n 0), (.inl rfl)⟩)
noncomputable def N_H_value (v1 : Int) (n : NS) : Option (Int × NS) :=
  (N_H_isInput v1 n).bind fun z2 =>
  if z2 = 0 then
    some ((-1), n)
  else
    ix v1 120 <|
    (N_H_showBytes (5 * v1) n).bind <| u2 fun z13 n16 =>
    some (z13, n16)
theorem f_H_value {w y : Prop} {g : g_S} {n : NS} {m : YS} (hw : w) {xv1 : Int32} {v1 : Int} (ev1 : xv1 = Int32.ofInt v1) (rv1 : inR v1) (hR : RC w y g n m) : Rf (fun a b => RI a.1 b.1 ∧ RC w y a.2 b.2 m) (M_H_value 0 xv1 g) (N_H_value v1 n) := by
  subst ev1
  unfold M_H_value N_H_value
  refine v_c (sK11 hR hw).1 ?_
  refine rf_bind (f_H_isInput hw rfl rv1 hR) (fun a4 z2 h => ?_)
  obtain ⟨rfl, r3⟩ := h
  refine rf_eq rfl (e_n 0) (inZ.r r3) (show inR 0 by decide) ?_ ?_
  · exact rf_ok (by exact ⟨⟨(e_m 1), (show inR (-1) by decide)⟩, hR⟩)
  · refine c_S hR hw (sK11 hR hw) (by decide) (show srf 11 0 2 = some 5 from rfl) ?_
    refine c_S hR hw (sK10 hR hw) (by decide) (show srf 10 0 0 = some 6 from rfl) ?_
    refine s_S (p := aNd (_)) (L := 120) hR hw (sA20 hR hw) (by decide) (lA20 hR hw) rfl rfl rv1 (fun z1 z2 => srf20 z1 z2) (fun h9 => ?_)
    refine c_S (p := _) hR hw (ce_nd hR hw (And.intro h9.1 (Int.le_of_lt h9.2))) (Nat.lt_trans (nd_lt (And.intro h9.1 (Int.le_of_lt h9.2))).1 (by decide)) rfl ?_
    refine v_c2 (sK11 hR hw).1 ?_
    refine rf_c2 (f_H_showBytes hw rfl (by5 (And.intro h9.1 (Int.le_of_lt h9.2))) hR) (fun a15 g18 b h => ?_)
    obtain ⟨z13, n16⟩ := b
    refine rf_v2 ?_
    obtain ⟨rfl, r14⟩ := (show RI a15 z13 from h.1)
    have hR17 : RC w y g18 n16 m := h.2
    exact rf_ok (by exact ⟨⟨rfl, r14⟩, hR17⟩)
noncomputable def N_H_checked (v1 : Int) (n : NS) : Option (Int) :=
  (N_H_isInput v1 n).bind fun z2 =>
  if z2 = 0 then
    some (-1)
  else
    ix v1 120 <|
    if (n 7 v1 16) = 0 then
      some 0
    else
      some 1
theorem f_H_checked {w y : Prop} {g : g_S} {n : NS} {m : YS} (hw : w) {xv1 : Int32} {v1 : Int} (ev1 : xv1 = Int32.ofInt v1) (rv1 : inR v1) (hR : RC w y g n m) : Rf (fun a b => RI a b) (M_H_checked 0 xv1 g) (N_H_checked v1 n) := by
  subst ev1
  unfold M_H_checked N_H_checked
  refine v_c (sK11 hR hw).1 ?_
  refine rf_bind (f_H_isInput hw rfl rv1 hR) (fun a4 z2 h => ?_)
  obtain ⟨rfl, r3⟩ := h
  refine rf_eq rfl (e_n 0) (inZ.r r3) (show inR 0 by decide) ?_ ?_
  · exact rf_ok (by exact ⟨(e_m 1), (show inR (-1) by decide)⟩)
  · refine c_S hR hw (sK11 hR hw) (by decide) (show srf 11 0 2 = some 5 from rfl) ?_
    refine c_S hR hw (sK10 hR hw) (by decide) (show srf 10 0 0 = some 6 from rfl) ?_
    refine s_S (p := aNd (_)) (L := 120) hR hw (sA20 hR hw) (by decide) (lA20 hR hw) rfl rfl rv1 (fun z1 z2 => srf20 z1 z2) (fun h9 => ?_)
    refine c_Z (s := 16) hR (ce_nd hR hw (And.intro h9.1 (Int.le_of_lt h9.2))) rfl rfl rfl (fun h11 => ?_)
    refine rf_eq rfl (e_n 0) (inZ.r h11) (show inR 0 by decide) ?_ ?_
    · exact rf_ok (by exact ⟨(e_n 0), (show inR 0 by decide)⟩)
    · exact rf_ok (by exact ⟨(e_n 1), (show inR 1 by decide)⟩)
noncomputable def N_H_countOfNet (v1 : Int) (n : NS) : Option (Int) :=
  if v1 = 2 then
    some (n 6 0 2)
  else if v1 = 3 then
    some (n 6 0 6)
  else if v1 = 4 then
    some (n 6 0 4)
  else if v1 = 5 then
    some (n 6 0 9)
  else if v1 = 6 then
    some (n 6 0 12)
  else if v1 = 7 then
    some (n 6 0 18)
  else if v1 = 8 then
    some (n 6 0 19)
  else if v1 = 9 then
    some (-1)
  else if v1 = 10 then
    some (-1)
  else if v1 = 11 then
    some (-1)
  else if v1 = 12 then
    some (-1)
  else if v1 = 13 then
    some (-1)
  else if v1 = 14 then
    some (-1)
  else if v1 = 15 then
    some (n 6 0 8)
  else
    some (-1)
theorem f_H_countOfNet {w y : Prop} {g : g_S} {n : NS} {m : YS} (hw : w) {xv1 : Int32} {v1 : Int} (ev1 : xv1 = Int32.ofInt v1) (rv1 : inR v1) (hR : RC w y g n m) : Rf (fun a b => RI a b) (M_H_countOfNet 0 xv1 g) (N_H_countOfNet v1 n) := by
  subst ev1
  unfold M_H_countOfNet N_H_countOfNet
  refine rf_eq rfl (e_n 2) rv1 (show inR 2 by decide) ?_ ?_
  · refine c_S hR hw (sK11 hR hw) (by decide) (show srf 11 0 3 = some 1569 from rfl) ?_
    refine c_I (s := 2) hR (sK6 hR hw) rfl rfl (fun h3 => ?_)
    exact rf_ok (by exact ⟨rfl, h3⟩)
  refine rf_eq rfl (e_n 3) rv1 (show inR 3 by decide) ?_ ?_
  · refine c_S hR hw (sK11 hR hw) (by decide) (show srf 11 0 3 = some 1569 from rfl) ?_
    refine c_I (s := 6) hR (sK6 hR hw) rfl rfl (fun h6 => ?_)
    exact rf_ok (by exact ⟨rfl, h6⟩)
  refine rf_eq rfl (e_n 4) rv1 (show inR 4 by decide) ?_ ?_
  · refine c_S hR hw (sK11 hR hw) (by decide) (show srf 11 0 3 = some 1569 from rfl) ?_
    refine c_I (s := 4) hR (sK6 hR hw) rfl rfl (fun h9 => ?_)
    exact rf_ok (by exact ⟨rfl, h9⟩)
  refine rf_eq rfl (e_n 5) rv1 (show inR 5 by decide) ?_ ?_
  · refine c_S hR hw (sK11 hR hw) (by decide) (show srf 11 0 3 = some 1569 from rfl) ?_
    refine c_I (s := 9) hR (sK6 hR hw) rfl rfl (fun h12 => ?_)
    exact rf_ok (by exact ⟨rfl, h12⟩)
  refine rf_eq rfl (e_n 6) rv1 (show inR 6 by decide) ?_ ?_
  · refine c_S hR hw (sK11 hR hw) (by decide) (show srf 11 0 3 = some 1569 from rfl) ?_
    refine c_I (s := 12) hR (sK6 hR hw) rfl rfl (fun h15 => ?_)
    exact rf_ok (by exact ⟨rfl, h15⟩)
  refine rf_eq rfl (e_n 7) rv1 (show inR 7 by decide) ?_ ?_
  · refine c_S hR hw (sK11 hR hw) (by decide) (show srf 11 0 3 = some 1569 from rfl) ?_
    refine c_I (s := 18) hR (sK6 hR hw) rfl rfl (fun h18 => ?_)
    exact rf_ok (by exact ⟨rfl, h18⟩)
  refine rf_eq rfl (e_n 8) rv1 (show inR 8 by decide) ?_ ?_
  · refine c_S hR hw (sK11 hR hw) (by decide) (show srf 11 0 3 = some 1569 from rfl) ?_
    refine c_I (s := 19) hR (sK6 hR hw) rfl rfl (fun h21 => ?_)
    exact rf_ok (by exact ⟨rfl, h21⟩)
  refine rf_eq rfl (e_n 9) rv1 (show inR 9 by decide) ?_ ?_
  · exact rf_ok (by exact ⟨(e_m 1), (show inR (-1) by decide)⟩)
  refine rf_eq rfl (e_n 10) rv1 (show inR 10 by decide) ?_ ?_
  · exact rf_ok (by exact ⟨(e_m 1), (show inR (-1) by decide)⟩)
  refine rf_eq rfl (e_n 11) rv1 (show inR 11 by decide) ?_ ?_
  · exact rf_ok (by exact ⟨(e_m 1), (show inR (-1) by decide)⟩)
  refine rf_eq rfl (e_n 12) rv1 (show inR 12 by decide) ?_ ?_
  · exact rf_ok (by exact ⟨(e_m 1), (show inR (-1) by decide)⟩)
  refine rf_eq rfl (e_n 13) rv1 (show inR 13 by decide) ?_ ?_
  · exact rf_ok (by exact ⟨(e_m 1), (show inR (-1) by decide)⟩)
  refine rf_eq rfl (e_n 14) rv1 (show inR 14 by decide) ?_ ?_
  · exact rf_ok (by exact ⟨(e_m 1), (show inR (-1) by decide)⟩)
  refine rf_eq rfl (e_n 15) rv1 (show inR 15 by decide) ?_ ?_
  · refine c_S hR hw (sK11 hR hw) (by decide) (show srf 11 0 3 = some 1569 from rfl) ?_
    refine c_I (s := 8) hR (sK6 hR hw) rfl rfl (fun h30 => ?_)
    exact rf_ok (by exact ⟨rfl, h30⟩)
  exact rf_ok (by exact ⟨(e_m 1), (show inR (-1) by decide)⟩)
noncomputable def nk_H_count_184 (v1 : Int) (n : NS) : Option (Int × NS) :=
  (N_H_countOfNet v1 n).bind fun z2 =>
  some (z2, n)
theorem fk_H_count_184 {w y : Prop} {g : g_S} {n : NS} {m : YS} (hw : w) {xv1 : Int32} {v1 : Int} (ev1 : xv1 = Int32.ofInt v1) (rv1 : inR v1) (hR : RC w y g n m) : Rf (fun a b => RI a.1 b.1 ∧ RC w y a.2 b.2 m) (k_H_count_184 0 xv1 g) (nk_H_count_184 v1 n) := by
  subst ev1
  unfold k_H_count_184 nk_H_count_184
  refine v_c (sK11 hR hw).1 ?_
  refine rf_bind (f_H_countOfNet hw rfl rv1 hR) (fun a4 z2 h => ?_)
  obtain ⟨rfl, r3⟩ := h
  exact rf_ok (by exact ⟨⟨rfl, r3⟩, hR⟩)
noncomputable def N_H_count (v1 : Int) (n : NS) : Option (Int × NS) :=
  if v1 = 0 then
    some ((n 10 0 5), n)
  else if v1 = 1 then
    some ((n 8 0 3), n)
  else if v1 = 2 then
    nk_H_count_184 v1 n
  else if v1 = 3 then
    nk_H_count_184 v1 n
  else if v1 = 4 then
    nk_H_count_184 v1 n
  else if v1 = 5 then
    nk_H_count_184 v1 n
  else if v1 = 6 then
    nk_H_count_184 v1 n
  else if v1 = 7 then
    nk_H_count_184 v1 n
  else if v1 = 8 then
    nk_H_count_184 v1 n
  else if v1 = 9 then
    some ((n 0 0 5), n)
  else if v1 = 10 then
    some ((n 0 0 10), n)
  else if v1 = 11 then
    some ((n 0 0 8), n)
  else if v1 = 12 then
    some ((n 0 0 7), n)
  else if v1 = 13 then
    (N_Tree_alive (n 0 0 6) n).bind fun z24 =>
    some (z24, n)
  else if v1 = 14 then
    (N_Sheet_refresh n).bind fun n30 =>
    (N_Layout_refresh n30).bind fun n35 =>
    (N_Layout_pictureHeight n35).bind fun z40 =>
    some (z40, n35)
  else if v1 = 15 then
    nk_H_count_184 v1 n
  else if v1 = 16 then
    (N_Sheet_refresh n).bind fun n46 =>
    some ((n46 9 0 13), n46)
  else
    nk_H_count_184 v1 n
theorem f_H_count {w y : Prop} {g : g_S} {n : NS} {m : YS} (hw : w) {xv1 : Int32} {v1 : Int} (ev1 : xv1 = Int32.ofInt v1) (rv1 : inR v1) (hR : RC w y g n m) : Rf (fun a b => RI a.1 b.1 ∧ RC w y a.2 b.2 m) (M_H_count 0 xv1 g) (N_H_count v1 n) := by
  subst ev1
  unfold M_H_count N_H_count
  refine rf_eq rfl (e_n 0) rv1 (show inR 0 by decide) ?_ ?_
  · refine c_S hR hw (sK11 hR hw) (by decide) (show srf 11 0 2 = some 5 from rfl) ?_
    refine c_I (s := 5) hR (sK10 hR hw) rfl rfl (fun h3 => ?_)
    exact rf_ok (by exact ⟨⟨rfl, h3⟩, hR⟩)
  refine rf_eq rfl (e_n 1) rv1 (show inR 1 by decide) ?_ ?_
  · refine c_S hR hw (sK11 hR hw) (by decide) (show srf 11 0 4 = some 1631 from rfl) ?_
    refine c_I (s := 3) hR (sK8 hR hw) rfl rfl (fun h6 => ?_)
    exact rf_ok (by exact ⟨⟨rfl, h6⟩, hR⟩)
  refine rf_eq rfl (e_n 2) rv1 (show inR 2 by decide) ?_ ?_
  · exact fk_H_count_184 hw rfl rv1 hR
  refine rf_eq rfl (e_n 3) rv1 (show inR 3 by decide) ?_ ?_
  · exact fk_H_count_184 hw rfl rv1 hR
  refine rf_eq rfl (e_n 4) rv1 (show inR 4 by decide) ?_ ?_
  · exact fk_H_count_184 hw rfl rv1 hR
  refine rf_eq rfl (e_n 5) rv1 (show inR 5 by decide) ?_ ?_
  · exact fk_H_count_184 hw rfl rv1 hR
  refine rf_eq rfl (e_n 6) rv1 (show inR 6 by decide) ?_ ?_
  · exact fk_H_count_184 hw rfl rv1 hR
  refine rf_eq rfl (e_n 7) rv1 (show inR 7 by decide) ?_ ?_
  · exact fk_H_count_184 hw rfl rv1 hR
  refine rf_eq rfl (e_n 8) rv1 (show inR 8 by decide) ?_ ?_
  · exact fk_H_count_184 hw rfl rv1 hR
  refine rf_eq rfl (e_n 9) rv1 (show inR 9 by decide) ?_ ?_
  · refine c_S hR hw (sK11 hR hw) (by decide) (show srf 11 0 7 = some 1789 from rfl) ?_
    refine c_I (s := 5) hR (sK0 hR hw) rfl rfl (fun h9 => ?_)
    exact rf_ok (by exact ⟨⟨rfl, h9⟩, hR⟩)
  refine rf_eq rfl (e_n 10) rv1 (show inR 10 by decide) ?_ ?_
  · refine c_S hR hw (sK11 hR hw) (by decide) (show srf 11 0 7 = some 1789 from rfl) ?_
    refine c_I (s := 10) hR (sK0 hR hw) rfl rfl (fun h12 => ?_)
    exact rf_ok (by exact ⟨⟨rfl, h12⟩, hR⟩)
  refine rf_eq rfl (e_n 11) rv1 (show inR 11 by decide) ?_ ?_
  · refine c_S hR hw (sK11 hR hw) (by decide) (show srf 11 0 7 = some 1789 from rfl) ?_
    refine c_I (s := 8) hR (sK0 hR hw) rfl rfl (fun h15 => ?_)
    exact rf_ok (by exact ⟨⟨rfl, h15⟩, hR⟩)
  refine rf_eq rfl (e_n 12) rv1 (show inR 12 by decide) ?_ ?_
  · refine c_S hR hw (sK11 hR hw) (by decide) (show srf 11 0 7 = some 1789 from rfl) ?_
    refine c_I (s := 7) hR (sK0 hR hw) rfl rfl (fun h18 => ?_)
    exact rf_ok (by exact ⟨⟨rfl, h18⟩, hR⟩)
  refine rf_eq rfl (e_n 13) rv1 (show inR 13 by decide) ?_ ?_
  · refine c_S hR hw (sK11 hR hw) (by decide) (show srf 11 0 2 = some 5 from rfl) ?_
    refine c_S hR hw (sK11 hR hw) (by decide) (show srf 11 0 7 = some 1789 from rfl) ?_
    refine c_L (s := 6) hR (sK0 hR hw) rfl rfl (fun h22 => ?_)
    refine v_c (sK10 hR hw).1 ?_
    refine rf_bind (f_Tree_alive hw rfl h22 hR) (fun a26 z24 h => ?_)
    obtain ⟨rfl, r25⟩ := h
    exact rf_ok (by exact ⟨⟨rfl, r25⟩, hR⟩)
  refine rf_eq rfl (e_n 14) rv1 (show inR 14 by decide) ?_ ?_
  · refine c_S hR hw (sK11 hR hw) (by decide) (show srf 11 0 5 = some 1650 from rfl) ?_
    refine v_c (sK9 hR hw).1 ?_
    refine rf_bind (f_Sheet_refresh hw hR) (fun g32 n30 hR31 => ?_)
    refine c_S hR31 hw (sK11 hR31 hw) (by decide) (show srf 11 0 6 = some 1661 from rfl) ?_
    refine v_c (sK5 hR31 hw).1 ?_
    refine rf_bind (f_Layout_refresh hw hR31) (fun g37 n35 hR36 => ?_)
    refine c_S hR36 hw (sK11 hR36 hw) (by decide) (show srf 11 0 6 = some 1661 from rfl) ?_
    refine v_c (sK5 hR36 hw).1 ?_
    refine rf_bind (f_Layout_pictureHeight hw hR36) (fun a42 z40 h => ?_)
    obtain ⟨rfl, r41⟩ := h
    exact rf_ok (by exact ⟨⟨rfl, r41⟩, hR36⟩)
  refine rf_eq rfl (e_n 15) rv1 (show inR 15 by decide) ?_ ?_
  · exact fk_H_count_184 hw rfl rv1 hR
  refine rf_eq rfl (e_n 16) rv1 (show inR 16 by decide) ?_ ?_
  · refine c_S hR hw (sK11 hR hw) (by decide) (show srf 11 0 5 = some 1650 from rfl) ?_
    refine v_c (sK9 hR hw).1 ?_
    refine rf_bind (f_Sheet_refresh hw hR) (fun g48 n46 hR47 => ?_)
    refine c_S hR47 hw (sK11 hR47 hw) (by decide) (show srf 11 0 5 = some 1650 from rfl) ?_
    refine c_I (s := 13) hR47 (sK9 hR47 hw) rfl rfl (fun h50 => ?_)
    exact rf_ok (by exact ⟨⟨rfl, h50⟩, hR47⟩)
  exact fk_H_count_184 hw rfl rv1 hR
noncomputable def nb_Y_take_10 (v1 : Int) (m : YS) : Option ((Int × YS) ⊕ (YS)) :=
  if v1 < (m 3 0) then
    ix v1 2000 <|
    ix v1 2000 <|
    st (yw m 2 v1 (m 0 v1)) fun m8 =>
    ck (v1 + 1) <|
    some (.inl (v1 + 1, m8))
  else
    some (.inr m)
theorem fb_Y_take_10 {w y : Prop} {g : g_S} {n : NS} {m : YS} (hy : y) {xv1 : Int32} {v1 : Int} (ev1 : xv1 = Int32.ofInt v1) (rv1 : inR v1) (hR : RC w y g n m) : Rf (RS (fun a b => RI a.1 b.1 ∧ RC w y a.2 n b.2) (fun a b => RC w y a n b)) (b_Y_take_10 1838 xv1 g) (nb_Y_take_10 v1 m) := by
  subst ev1
  unfold b_Y_take_10 nb_Y_take_10
  refine y_I hR hy yk3 yt3 (fun h1 => ?_)
  refine rf_lt rfl rfl rv1 h1 ?_ ?_
  · refine y_Q hR hy ya2.1 (by decide) ?_
    refine y_Q hR hy ya0.1 (by decide) ?_
    refine y_aB hR hy ya0 yl0 rfl rv1 (fun h5 h6 => ?_)
    refine y_sB hR hy ya2 yl2 rfl rv1 rfl h6 (fun g10 m8 hR9 => ?_)
    refine rf_ck (fun h11 => ?_)
    exact rf_ok (by exact ⟨⟨(e_add rfl (e_n 1)), h11⟩, hR9⟩)
  · exact rf_ok (by exact hR)
noncomputable def NL_Y_take_10 (v1 : Int) (m : YS) : Option (YS) :=
  it (fun s : Int × YS => nb_Y_take_10 s.1 s.2) (v1, m)
theorem fL_Y_take_10 {w y : Prop} {g : g_S} {n : NS} {m : YS} (hy : y) {xv1 : Int32} {v1 : Int} (ev1 : xv1 = Int32.ofInt v1) (rv1 : inR v1) (hR : RC w y g n m) : Rf (fun a b => RC w y a n b) (L_Y_take_10 1838 xv1 g) (NL_Y_take_10 v1 m) := by
  subst ev1
  unfold L_Y_take_10 NL_Y_take_10
  refine rf_it (I := (fun a b => RI a.1 b.1 ∧ RC w y a.2 n b.2)) (fun s t h => ?_) ⟨⟨rfl, rv1⟩, hR⟩
  exact fb_Y_take_10 hy h.1.1 h.1.2 h.2
theorem NL_Y_take_10_eq (v1 : Int) (m : YS) : NL_Y_take_10 v1 m = itc (nb_Y_take_10 v1 m) (fun s => NL_Y_take_10 s.1 s.2) := it_eq2 (fun s : Int × YS => nb_Y_take_10 s.1 s.2) (v1, m)
noncomputable def nb_Y_take_43 (v1 : Int) (m : YS) : Option ((Int) ⊕ ((Int) ⊕ (Unit))) :=
  if v1 < (m 3 0) then
    ix v1 2000 <|
    if (m 2 v1) = 10 then
      ck (v1 + 1) <|
      some (.inl (v1 + 1))
    else
      if (m 2 v1) < 32 then
        some (.inr (.inl v1))
      else
        if 126 < (m 2 v1) then
          some (.inr (.inl v1))
        else
          ck (v1 + 1) <|
          some (.inl (v1 + 1))
  else
    some (.inr (.inr ()))
theorem fb_Y_take_43 {w y : Prop} {g : g_S} {n : NS} {m : YS} (hy : y) {xv1 : Int32} {v1 : Int} (ev1 : xv1 = Int32.ofInt v1) (rv1 : inR v1) (hR : RC w y g n m) : Rf (RS (fun a b => RI a b) (RS (fun a b => RI a b) (fun _ _ => True))) (b_Y_take_43 1838 xv1 g) (nb_Y_take_43 v1 m) := by
  subst ev1
  unfold b_Y_take_43 nb_Y_take_43
  refine y_I hR hy yk3 yt3 (fun h1 => ?_)
  refine rf_lt rfl rfl rv1 h1 ?_ ?_
  · refine y_Q hR hy ya2.1 (by decide) ?_
    refine y_aB hR hy ya2 yl2 rfl rv1 (fun h4 h5 => ?_)
    refine rf_eq rfl (e_n 10) (inB.r h5) (show inR 10 by decide) ?_ ?_
    · refine rf_ck (fun h7 => ?_)
      exact rf_ok (by exact ⟨(e_add rfl (e_n 1)), h7⟩)
    · refine rf_lt rfl (e_n 32) (inB.r h5) (show inR 32 by decide) ?_ ?_
      · exact rf_ok (by exact ⟨rfl, rv1⟩)
      · refine rf_lt (e_n 126) rfl (show inR 126 by decide) (inB.r h5) ?_ ?_
        · exact rf_ok (by exact ⟨rfl, rv1⟩)
        · refine rf_ck (fun h10 => ?_)
          exact rf_ok (by exact ⟨(e_add rfl (e_n 1)), h10⟩)
  · exact rf_ok (by exact trivial)
noncomputable def NL_Y_take_43 (v1 : Int) (m : YS) : Option ((Int) ⊕ (Unit)) :=
  it (fun s : Int => nb_Y_take_43 s m) (v1)
theorem fL_Y_take_43 {w y : Prop} {g : g_S} {n : NS} {m : YS} (hy : y) {xv1 : Int32} {v1 : Int} (ev1 : xv1 = Int32.ofInt v1) (rv1 : inR v1) (hR : RC w y g n m) : Rf (RS (fun a b => RI a b) (fun _ _ => True)) (L_Y_take_43 1838 xv1 g) (NL_Y_take_43 v1 m) := by
  subst ev1
  unfold L_Y_take_43 NL_Y_take_43
  refine rf_it (I := (fun a b => RI a b)) (fun s t h => ?_) ⟨rfl, rv1⟩
  exact fb_Y_take_43 hy h.1 h.2 hR
theorem NL_Y_take_43_eq (v1 : Int) (m : YS) : NL_Y_take_43 v1 m = itc (nb_Y_take_43 v1 m) (fun s => NL_Y_take_43 s m) := it_eq2 (fun s : Int => nb_Y_take_43 s m) (v1)
noncomputable def N_Y_take (m : YS) : Option (Int × YS) :=
  st (yw m 3 0 (m 1 0)) fun m3 =>
  (NL_Y_take_10 0 m3).bind <| fun m6 =>
  st (yw m6 1 0 0) fun m10 =>
  (NL_Y_take_43 0 m10).bind <|
    us (fun z13 =>
    some (z13, m10))
    (fun _ =>
    some ((-1), m10))
theorem f_Y_take {w y : Prop} {g : g_S} {n : NS} {m : YS} (hy : y) (hR : RC w y g n m) : Rf (fun a b => RI a.1 b.1 ∧ RC w y a.2 n b.2) (M_Y_take 1838 g) (N_Y_take m) := by
  unfold M_Y_take N_Y_take
  refine y_I hR hy yk1 yt1 (fun h1 => ?_)
  refine y_pI hR hy yk3 ⟨yt3, yz3⟩ rfl h1 (fun g5 m3 hR4 => ?_)
  refine rf_bind (fL_Y_take_10 hy (e_n 0) (show inR 0 by decide) hR4) (fun a7 m6 h => ?_)
  have hR8 : RC w y a7 n m6 := h
  refine y_pI hR8 hy yk1 ⟨yt1, yz1⟩ (e_n 0) (show inR 0 by decide) (fun g12 m10 hR11 => ?_)
  refine rf_bind (fL_Y_take_43 hy (e_n 0) (show inR 0 by decide) hR11) (fun a b h => rf_us h (fun a14 z13 h => ?_) (fun a b h => ?_))
  · obtain ⟨rfl, r15⟩ := (show RI a14 z13 from h)
    exact rf_ok (by exact ⟨⟨rfl, r15⟩, hR11⟩)
  · exact rf_ok (by exact ⟨⟨(e_m 1), (show inR (-1) by decide)⟩, hR11⟩)
noncomputable def N_Y_wrong (v0 : Int) (m : YS) : Option (Int) :=
  ck ((-1000) - v0) <|
  some ((-1000) - v0)
theorem f_Y_wrong {w y : Prop} {g : g_S} {n : NS} {m : YS} (hy : y) {xv0 : Int32} {v0 : Int} (ev0 : xv0 = Int32.ofInt v0) (rv0 : inR v0) (hR : RC w y g n m) : Rf (fun a b => RI a b) (M_Y_wrong xv0 g) (N_Y_wrong v0 m) := by
  subst ev0
  unfold M_Y_wrong N_Y_wrong
  refine rf_ck (fun h1 => ?_)
  exact rf_ok (by exact ⟨(e_sub (e_m 1000) rfl), h1⟩)
noncomputable def N_Y_isBlank (v0 : Int) (m : YS) : Option (Int) :=
  if v0 = 10 then
    some 1
  else
    if v0 = 32 then
      some 1
    else
      some 0
theorem f_Y_isBlank {w y : Prop} {g : g_S} {n : NS} {m : YS} (hy : y) {xv0 : Int32} {v0 : Int} (ev0 : xv0 = Int32.ofInt v0) (rv0 : inR v0) (hR : RC w y g n m) : Rf (fun a b => RZ a b) (M_Y_isBlank xv0 g) (N_Y_isBlank v0 m) := by
  subst ev0
  unfold M_Y_isBlank N_Y_isBlank
  refine rf_eq rfl (e_n 10) rv0 (show inR 10 by decide) ?_ ?_
  · exact rf_ok (by exact ⟨(e_n 1), (.inr rfl)⟩)
  · refine rf_eq rfl (e_n 32) rv0 (show inR 32 by decide) ?_ ?_
    · exact rf_ok (by exact ⟨(e_n 1), (.inr rfl)⟩)
    · exact rf_ok (by exact ⟨(e_n 0), (.inl rfl)⟩)
noncomputable def nb_Y_tokenEnd_2 (v2 : Int) (m : YS) : Option ((Int) ⊕ (Int)) :=
  if v2 < (m 3 0) then
    ix v2 2000 <|
    (N_Y_isBlank (m 2 v2) m).bind fun z7 =>
    if z7 = 0 then
      ck (v2 + 1) <|
      some (.inl (v2 + 1))
    else
      some (.inr v2)
  else
    some (.inr v2)
theorem fb_Y_tokenEnd_2 {w y : Prop} {g : g_S} {n : NS} {m : YS} (hy : y) {xv2 : Int32} {v2 : Int} (ev2 : xv2 = Int32.ofInt v2) (rv2 : inR v2) (hR : RC w y g n m) : Rf (RS (fun a b => RI a b) (fun a b => RI a b)) (b_Y_tokenEnd_2 1838 xv2 g) (nb_Y_tokenEnd_2 v2 m) := by
  subst ev2
  unfold b_Y_tokenEnd_2 nb_Y_tokenEnd_2
  refine y_I hR hy yk3 yt3 (fun h1 => ?_)
  refine rf_lt rfl rfl rv2 h1 ?_ ?_
  · refine y_Q hR hy ya2.1 (by decide) ?_
    refine y_aB hR hy ya2 yl2 rfl rv2 (fun h4 h5 => ?_)
    refine rf_bind (f_Y_isBlank hy rfl (inB.r h5) hR) (fun a9 z7 h => ?_)
    obtain ⟨rfl, r8⟩ := h
    refine rf_eq rfl (e_n 0) (inZ.r r8) (show inR 0 by decide) ?_ ?_
    · refine rf_ck (fun h11 => ?_)
      exact rf_ok (by exact ⟨(e_add rfl (e_n 1)), h11⟩)
    · exact rf_ok (by exact ⟨rfl, rv2⟩)
  · exact rf_ok (by exact ⟨rfl, rv2⟩)
noncomputable def NL_Y_tokenEnd_2 (v2 : Int) (m : YS) : Option (Int) :=
  it (fun s : Int => nb_Y_tokenEnd_2 s m) (v2)
theorem fL_Y_tokenEnd_2 {w y : Prop} {g : g_S} {n : NS} {m : YS} (hy : y) {xv2 : Int32} {v2 : Int} (ev2 : xv2 = Int32.ofInt v2) (rv2 : inR v2) (hR : RC w y g n m) : Rf (fun a b => RI a b) (L_Y_tokenEnd_2 1838 xv2 g) (NL_Y_tokenEnd_2 v2 m) := by
  subst ev2
  unfold L_Y_tokenEnd_2 NL_Y_tokenEnd_2
  refine rf_it (I := (fun a b => RI a b)) (fun s t h => ?_) ⟨rfl, rv2⟩
  exact fb_Y_tokenEnd_2 hy h.1 h.2 hR
theorem NL_Y_tokenEnd_2_eq (v2 : Int) (m : YS) : NL_Y_tokenEnd_2 v2 m = itc (nb_Y_tokenEnd_2 v2 m) (fun s => NL_Y_tokenEnd_2 s m) := it_eq2 (fun s : Int => nb_Y_tokenEnd_2 s m) (v2)
noncomputable def N_Y_tokenEnd (v1 : Int) (m : YS) : Option (Int) :=
  (NL_Y_tokenEnd_2 v1 m).bind <| fun z1 =>
  some z1
theorem f_Y_tokenEnd {w y : Prop} {g : g_S} {n : NS} {m : YS} (hy : y) {xv1 : Int32} {v1 : Int} (ev1 : xv1 = Int32.ofInt v1) (rv1 : inR v1) (hR : RC w y g n m) : Rf (fun a b => RI a b) (M_Y_tokenEnd 1838 xv1 g) (N_Y_tokenEnd v1 m) := by
  subst ev1
  unfold M_Y_tokenEnd N_Y_tokenEnd
  refine rf_bind (fL_Y_tokenEnd_2 hy rfl rv1 hR) (fun a2 z1 h => ?_)
  obtain ⟨rfl, r3⟩ := (show RI a2 z1 from h)
  exact rf_ok (by exact ⟨rfl, r3⟩)
noncomputable def N_Y_isSmall (v0 : Int) (m : YS) : Option (Int) :=
  if v0 < 97 then
    some 0
  else
    if 122 < v0 then
      some 0
    else
      some 1
theorem f_Y_isSmall {w y : Prop} {g : g_S} {n : NS} {m : YS} (hy : y) {xv0 : Int32} {v0 : Int} (ev0 : xv0 = Int32.ofInt v0) (rv0 : inR v0) (hR : RC w y g n m) : Rf (fun a b => RZ a b) (M_Y_isSmall xv0 g) (N_Y_isSmall v0 m) := by
  subst ev0
  unfold M_Y_isSmall N_Y_isSmall
  refine rf_lt rfl (e_n 97) rv0 (show inR 97 by decide) ?_ ?_
  · exact rf_ok (by exact ⟨(e_n 0), (.inl rfl)⟩)
  · refine rf_lt (e_n 122) rfl (show inR 122 by decide) rv0 ?_ ?_
    · exact rf_ok (by exact ⟨(e_n 0), (.inl rfl)⟩)
    · exact rf_ok (by exact ⟨(e_n 1), (.inr rfl)⟩)
noncomputable def N_Y_isDigit (v0 : Int) (m : YS) : Option (Int) :=
  if v0 < 48 then
    some 0
  else
    if 57 < v0 then
      some 0
    else
      some 1
theorem f_Y_isDigit {w y : Prop} {g : g_S} {n : NS} {m : YS} (hy : y) {xv0 : Int32} {v0 : Int} (ev0 : xv0 = Int32.ofInt v0) (rv0 : inR v0) (hR : RC w y g n m) : Rf (fun a b => RZ a b) (M_Y_isDigit xv0 g) (N_Y_isDigit v0 m) := by
  subst ev0
  unfold M_Y_isDigit N_Y_isDigit
  refine rf_lt rfl (e_n 48) rv0 (show inR 48 by decide) ?_ ?_
  · exact rf_ok (by exact ⟨(e_n 0), (.inl rfl)⟩)
  · refine rf_lt (e_n 57) rfl (show inR 57 by decide) rv0 ?_ ?_
    · exact rf_ok (by exact ⟨(e_n 0), (.inl rfl)⟩)
    · exact rf_ok (by exact ⟨(e_n 1), (.inr rfl)⟩)
noncomputable def nb_Y_nameEnd_18 (v0 : Nat) (v1 : Int) (v2 : Int) (v3 : Int) (m : YS) : Option ((Int) ⊕ (Int)) :=
  if v3 < v2 then
    ix v3 (yLn v0 : Int) <|
    (N_Y_isSmall (m v0 v3) m).bind fun z5 =>
    if z5 = 0 then
      ix v3 (yLn v0 : Int) <|
      (N_Y_isDigit (m v0 v3) m).bind fun z12 =>
      if z12 = 0 then
        some (.inr v3)
      else
        ck (v3 + 1) <|
        some (.inl (v3 + 1))
    else
      ck (v3 + 1) <|
      some (.inl (v3 + 1))
  else
    some (.inr v3)
theorem fb_Y_nameEnd_18 {w y : Prop} {g : g_S} {n : NS} {m : YS} (hy : y) {xv0 : Nat} {v0 : Nat} (ev0 : xv0 = yAd v0) (rv0 : v0 < 186 ∧ yT v0 = 1) {xv1 : Int32} {v1 : Int} (ev1 : xv1 = Int32.ofInt v1) (rv1 : inR v1) {xv2 : Int32} {v2 : Int} (ev2 : xv2 = Int32.ofInt v2) (rv2 : inR v2) {xv3 : Int32} {v3 : Int} (ev3 : xv3 = Int32.ofInt v3) (rv3 : inR v3) (hR : RC w y g n m) : Rf (RS (fun a b => RI a b) (fun a b => RI a b)) (b_Y_nameEnd_18 xv0 xv1 xv2 xv3 g) (nb_Y_nameEnd_18 v0 v1 v2 v3 m) := by
  subst ev0
  subst ev1
  subst ev2
  subst ev3
  unfold b_Y_nameEnd_18 nb_Y_nameEnd_18
  refine rf_lt rfl rfl rv3 rv2 ?_ ?_
  · refine y_aB hR hy rv0 rfl rfl rv3 (fun h2 h3 => ?_)
    refine rf_bind (f_Y_isSmall hy rfl (inB.r h3) hR) (fun a7 z5 h => ?_)
    obtain ⟨rfl, r6⟩ := h
    refine rf_eq rfl (e_n 0) (inZ.r r6) (show inR 0 by decide) ?_ ?_
    · refine y_aB hR hy rv0 rfl rfl rv3 (fun h9 h10 => ?_)
      refine rf_bind (f_Y_isDigit hy rfl (inB.r h10) hR) (fun a14 z12 h => ?_)
      obtain ⟨rfl, r13⟩ := h
      refine rf_eq rfl (e_n 0) (inZ.r r13) (show inR 0 by decide) ?_ ?_
      · exact rf_ok (by exact ⟨rfl, rv3⟩)
      · refine rf_ck (fun h16 => ?_)
        exact rf_ok (by exact ⟨(e_add rfl (e_n 1)), h16⟩)
    · refine rf_ck (fun h17 => ?_)
      exact rf_ok (by exact ⟨(e_add rfl (e_n 1)), h17⟩)
  · exact rf_ok (by exact ⟨rfl, rv3⟩)
noncomputable def NL_Y_nameEnd_18 (v0 : Nat) (v1 : Int) (v2 : Int) (v3 : Int) (m : YS) : Option (Int) :=
  it (fun s : Int => nb_Y_nameEnd_18 v0 v1 v2 s m) (v3)
theorem fL_Y_nameEnd_18 {w y : Prop} {g : g_S} {n : NS} {m : YS} (hy : y) {xv0 : Nat} {v0 : Nat} (ev0 : xv0 = yAd v0) (rv0 : v0 < 186 ∧ yT v0 = 1) {xv1 : Int32} {v1 : Int} (ev1 : xv1 = Int32.ofInt v1) (rv1 : inR v1) {xv2 : Int32} {v2 : Int} (ev2 : xv2 = Int32.ofInt v2) (rv2 : inR v2) {xv3 : Int32} {v3 : Int} (ev3 : xv3 = Int32.ofInt v3) (rv3 : inR v3) (hR : RC w y g n m) : Rf (fun a b => RI a b) (L_Y_nameEnd_18 xv0 xv1 xv2 xv3 g) (NL_Y_nameEnd_18 v0 v1 v2 v3 m) := by
  subst ev0
  subst ev1
  subst ev2
  subst ev3
  unfold L_Y_nameEnd_18 NL_Y_nameEnd_18
  refine rf_it (I := (fun a b => RI a b)) (fun s t h => ?_) ⟨rfl, rv3⟩
  exact fb_Y_nameEnd_18 hy rfl rv0 rfl rv1 rfl rv2 h.1 h.2 hR
theorem NL_Y_nameEnd_18_eq (v0 : Nat) (v1 : Int) (v2 : Int) (v3 : Int) (m : YS) : NL_Y_nameEnd_18 v0 v1 v2 v3 m = itc (nb_Y_nameEnd_18 v0 v1 v2 v3 m) (fun s => NL_Y_nameEnd_18 v0 v1 v2 s m) := it_eq2 (fun s : Int => nb_Y_nameEnd_18 v0 v1 v2 s m) (v3)
noncomputable def nk_Y_nameEnd_47 (v1 : Int) (v3 : Int) (m : YS) : Option (Int) :=
  ck (v3 - v1) <|
  if 8 < (v3 - v1) then
    some v1
  else
    some v3
theorem fk_Y_nameEnd_47 {w y : Prop} {g : g_S} {n : NS} {m : YS} (hy : y) {xv1 : Int32} {v1 : Int} (ev1 : xv1 = Int32.ofInt v1) (rv1 : inR v1) {xv3 : Int32} {v3 : Int} (ev3 : xv3 = Int32.ofInt v3) (rv3 : inR v3) (hR : RC w y g n m) : Rf (fun a b => RI a b) (k_Y_nameEnd_47 xv1 xv3 g) (nk_Y_nameEnd_47 v1 v3 m) := by
  subst ev1
  subst ev3
  unfold k_Y_nameEnd_47 nk_Y_nameEnd_47
  refine rf_ck (fun h1 => ?_)
  refine rf_lt (e_n 8) (e_sub rfl rfl) (show inR 8 by decide) h1 ?_ ?_
  · exact rf_ok (by exact ⟨rfl, rv1⟩)
  · exact rf_ok (by exact ⟨rfl, rv3⟩)
noncomputable def N_Y_nameEnd (v0 : Nat) (v1 : Int) (v2 : Int) (m : YS) : Option (Int) :=
  if v1 < v2 then
    ix v1 (yLn v0 : Int) <|
    (N_Y_isSmall (m v0 v1) m).bind fun z5 =>
    if z5 = 0 then
      some v1
    else
      (NL_Y_nameEnd_18 v0 v1 v2 v1 m).bind <| fun z10 =>
      nk_Y_nameEnd_47 v1 z10 m
  else
    some v1
theorem f_Y_nameEnd {w y : Prop} {g : g_S} {n : NS} {m : YS} (hy : y) {xv0 : Nat} {v0 : Nat} (ev0 : xv0 = yAd v0) (rv0 : v0 < 186 ∧ yT v0 = 1) {xv1 : Int32} {v1 : Int} (ev1 : xv1 = Int32.ofInt v1) (rv1 : inR v1) {xv2 : Int32} {v2 : Int} (ev2 : xv2 = Int32.ofInt v2) (rv2 : inR v2) (hR : RC w y g n m) : Rf (fun a b => RI a b) (M_Y_nameEnd xv0 xv1 xv2 g) (N_Y_nameEnd v0 v1 v2 m) := by
  subst ev0
  subst ev1
  subst ev2
  unfold M_Y_nameEnd N_Y_nameEnd
  refine rf_lt rfl rfl rv1 rv2 ?_ ?_
  · refine y_aB hR hy rv0 rfl rfl rv1 (fun h2 h3 => ?_)
    refine rf_bind (f_Y_isSmall hy rfl (inB.r h3) hR) (fun a7 z5 h => ?_)
    obtain ⟨rfl, r6⟩ := h
    refine rf_eq rfl (e_n 0) (inZ.r r6) (show inR 0 by decide) ?_ ?_
    · exact rf_ok (by exact ⟨rfl, rv1⟩)
    · refine rf_bind (fL_Y_nameEnd_18 hy rfl rv0 rfl rv1 rfl rv2 rfl rv1 hR) (fun a11 z10 h => ?_)
      obtain ⟨rfl, r12⟩ := (show RI a11 z10 from h)
      exact fk_Y_nameEnd_47 hy rfl rv1 rfl r12 hR
  · exact rf_ok (by exact ⟨rfl, rv1⟩)
noncomputable def N_Y_put (v1 : Int) (v2 : Int) (m : YS) : Option (YS) :=
  ck (v1 * 150) <|
  ix v1 66 <|
  ck ((v1 * 150) + (m 7 v1)) <|
  ix ((v1 * 150) + (m 7 v1)) 9900 <|
  st (yw m 6 ((v1 * 150) + (m 7 v1)) (Int.bmod v2 256)) fun m8 =>
  ix v1 66 <|
  ck ((m8 7 v1) + 1) <|
  ix v1 66 <|
  st (yw m8 7 v1 ((m8 7 v1) + 1)) fun m16 =>
  some m16
theorem f_Y_put {w y : Prop} {g : g_S} {n : NS} {m : YS} (hy : y) {xv1 : Int32} {v1 : Int} (ev1 : xv1 = Int32.ofInt v1) (rv1 : inR v1) {xv2 : Int32} {v2 : Int} (ev2 : xv2 = Int32.ofInt v2) (rv2 : inR v2) (hR : RC w y g n m) : Rf (fun a b => RC w y a n b) (M_Y_put 1838 xv1 xv2 g) (N_Y_put v1 v2 m) := by
  subst ev1
  subst ev2
  unfold M_Y_put N_Y_put
  refine y_Q hR hy ya6.1 (by decide) ?_
  refine rf_ck (fun h2 => ?_)
  refine y_Q hR hy ya7.1 (by decide) ?_
  refine y_aI hR hy ya7 yl7 rfl rv1 (fun h4 h5 => ?_)
  refine rf_ck (fun h6 => ?_)
  refine y_sB hR hy ya6 yl6 (e_add (e_mul rfl (e_n 150)) rfl) h6 (e_b rfl) b_b (fun g10 m8 hR9 => ?_)
  refine y_Q hR9 hy ya7.1 (by decide) ?_
  refine y_aI hR9 hy ya7 yl7 rfl rv1 (fun h12 h13 => ?_)
  refine rf_ck (fun h14 => ?_)
  refine y_sI hR9 hy ya7 yl7 rfl rv1 (e_add rfl (e_n 1)) h14 (fun g18 m16 hR17 => ?_)
  exact rf_ok (by exact hR17)
noncomputable def N_Y_isSegment (v0 : Int) (m : YS) : Option (Int) :=
  (N_Y_isSmall v0 m).bind fun z2 =>
  if z2 = 0 then
    (N_Y_isDigit v0 m).bind fun z7 =>
    if z7 = 0 then
      if v0 = 46 then
        some 1
      else
        if v0 = 45 then
          some 1
        else
          if v0 = 95 then
            some 1
          else
            some 0
    else
      some 1
  else
    some 1
theorem f_Y_isSegment {w y : Prop} {g : g_S} {n : NS} {m : YS} (hy : y) {xv0 : Int32} {v0 : Int} (ev0 : xv0 = Int32.ofInt v0) (rv0 : inR v0) (hR : RC w y g n m) : Rf (fun a b => RZ a b) (M_Y_isSegment xv0 g) (N_Y_isSegment v0 m) := by
  subst ev0
  unfold M_Y_isSegment N_Y_isSegment
  refine rf_bind (f_Y_isSmall hy rfl rv0 hR) (fun a4 z2 h => ?_)
  obtain ⟨rfl, r3⟩ := h
  refine rf_eq rfl (e_n 0) (inZ.r r3) (show inR 0 by decide) ?_ ?_
  · refine rf_bind (f_Y_isDigit hy rfl rv0 hR) (fun a9 z7 h => ?_)
    obtain ⟨rfl, r8⟩ := h
    refine rf_eq rfl (e_n 0) (inZ.r r8) (show inR 0 by decide) ?_ ?_
    · refine rf_eq rfl (e_n 46) rv0 (show inR 46 by decide) ?_ ?_
      · exact rf_ok (by exact ⟨(e_n 1), (.inr rfl)⟩)
      · refine rf_eq rfl (e_n 45) rv0 (show inR 45 by decide) ?_ ?_
        · exact rf_ok (by exact ⟨(e_n 1), (.inr rfl)⟩)
        · refine rf_eq rfl (e_n 95) rv0 (show inR 95 by decide) ?_ ?_
          · exact rf_ok (by exact ⟨(e_n 1), (.inr rfl)⟩)
          · exact rf_ok (by exact ⟨(e_n 0), (.inl rfl)⟩)
    · exact rf_ok (by exact ⟨(e_n 1), (.inr rfl)⟩)
  · exact rf_ok (by exact ⟨(e_n 1), (.inr rfl)⟩)
noncomputable def nb_Y_segment_138 (v1 : Nat) (v2 : Int) (v3 : Int) (v4 : Int) (m : YS) : Option ((Int × YS) ⊕ (YS)) :=
  if v4 < v3 then
    ix (m 12 0) 2100 <|
    ck ((m 10 (m 12 0)) + v4) <|
    ck (v2 + v4) <|
    ix (v2 + v4) (yLn v1 : Int) <|
    ix ((m 10 (m 12 0)) + v4) 2200 <|
    st (yw m 9 ((m 10 (m 12 0)) + v4) (m v1 (v2 + v4))) fun m12 =>
    ck (v4 + 1) <|
    some (.inl (v4 + 1, m12))
  else
    some (.inr m)
theorem fb_Y_segment_138 {w y : Prop} {g : g_S} {n : NS} {m : YS} (hy : y) {xv1 : Nat} {v1 : Nat} (ev1 : xv1 = yAd v1) (rv1 : v1 < 186 ∧ yT v1 = 1) {xv2 : Int32} {v2 : Int} (ev2 : xv2 = Int32.ofInt v2) (rv2 : inR v2) {xv3 : Int32} {v3 : Int} (ev3 : xv3 = Int32.ofInt v3) (rv3 : inR v3) {xv4 : Int32} {v4 : Int} (ev4 : xv4 = Int32.ofInt v4) (rv4 : inR v4) (hR : RC w y g n m) : Rf (RS (fun a b => RI a.1 b.1 ∧ RC w y a.2 n b.2) (fun a b => RC w y a n b)) (b_Y_segment_138 1838 xv1 xv2 xv3 xv4 g) (nb_Y_segment_138 v1 v2 v3 v4 m) := by
  subst ev1
  subst ev2
  subst ev3
  subst ev4
  unfold b_Y_segment_138 nb_Y_segment_138
  refine rf_lt rfl rfl rv4 rv3 ?_ ?_
  · refine y_Q hR hy ya9.1 (by decide) ?_
    refine y_Q hR hy ya10.1 (by decide) ?_
    refine y_I hR hy yk12 yt12 (fun h4 => ?_)
    refine y_aI hR hy ya10 yl10 rfl h4 (fun h5 h6 => ?_)
    refine rf_ck (fun h7 => ?_)
    refine rf_ck (fun h8 => ?_)
    refine y_aB hR hy rv1 rfl (e_add rfl rfl) h8 (fun h9 h10 => ?_)
    refine y_sB hR hy ya9 yl9 (e_add rfl rfl) h7 rfl h10 (fun g14 m12 hR13 => ?_)
    refine rf_ck (fun h15 => ?_)
    exact rf_ok (by exact ⟨⟨(e_add rfl (e_n 1)), h15⟩, hR13⟩)
  · exact rf_ok (by exact hR)
noncomputable def NL_Y_segment_138 (v1 : Nat) (v2 : Int) (v3 : Int) (v4 : Int) (m : YS) : Option (YS) :=
  it (fun s : Int × YS => nb_Y_segment_138 v1 v2 v3 s.1 s.2) (v4, m)
theorem fL_Y_segment_138 {w y : Prop} {g : g_S} {n : NS} {m : YS} (hy : y) {xv1 : Nat} {v1 : Nat} (ev1 : xv1 = yAd v1) (rv1 : v1 < 186 ∧ yT v1 = 1) {xv2 : Int32} {v2 : Int} (ev2 : xv2 = Int32.ofInt v2) (rv2 : inR v2) {xv3 : Int32} {v3 : Int} (ev3 : xv3 = Int32.ofInt v3) (rv3 : inR v3) {xv4 : Int32} {v4 : Int} (ev4 : xv4 = Int32.ofInt v4) (rv4 : inR v4) (hR : RC w y g n m) : Rf (fun a b => RC w y a n b) (L_Y_segment_138 1838 xv1 xv2 xv3 xv4 g) (NL_Y_segment_138 v1 v2 v3 v4 m) := by
  subst ev1
  subst ev2
  subst ev3
  subst ev4
  unfold L_Y_segment_138 NL_Y_segment_138
  refine rf_it (I := (fun a b => RI a.1 b.1 ∧ RC w y a.2 n b.2)) (fun s t h => ?_) ⟨⟨rfl, rv4⟩, hR⟩
  exact fb_Y_segment_138 hy rfl rv1 rfl rv2 rfl rv3 h.1.1 h.1.2 h.2
theorem NL_Y_segment_138_eq (v1 : Nat) (v2 : Int) (v3 : Int) (v4 : Int) (m : YS) : NL_Y_segment_138 v1 v2 v3 v4 m = itc (nb_Y_segment_138 v1 v2 v3 v4 m) (fun s => NL_Y_segment_138 v1 v2 v3 s.1 s.2) := it_eq2 (fun s : Int × YS => nb_Y_segment_138 v1 v2 v3 s.1 s.2) (v4, m)
noncomputable def nk_Y_segment_124 (v1 : Nat) (v2 : Int) (v3 : Int) (w0 : Int) (w1 : Int) (m : YS) : Option (YS) :=
  ix w1 2100 <|
  st (yw m 10 w1 w0) fun m2 =>
  ix (m2 12 0) 2100 <|
  st (yw m2 11 (m2 12 0) v3) fun m8 =>
  (NL_Y_segment_138 v1 v2 v3 0 m8).bind <| fun m11 =>
  ck ((m11 12 0) + 1) <|
  st (yw m11 12 0 ((m11 12 0) + 1)) fun m17 =>
  some m17
theorem fk_Y_segment_124 {w y : Prop} {g : g_S} {n : NS} {m : YS} (hy : y) {xv1 : Nat} {v1 : Nat} (ev1 : xv1 = yAd v1) (rv1 : v1 < 186 ∧ yT v1 = 1) {xv2 : Int32} {v2 : Int} (ev2 : xv2 = Int32.ofInt v2) (rv2 : inR v2) {xv3 : Int32} {v3 : Int} (ev3 : xv3 = Int32.ofInt v3) (rv3 : inR v3) {xw0 : Int32} {w0 : Int} (ew0 : xw0 = Int32.ofInt w0) (rw0 : inR w0) {xw1 : Int32} {w1 : Int} (ew1 : xw1 = Int32.ofInt w1) (rw1 : inR w1) (hR : RC w y g n m) : Rf (fun a b => RC w y a n b) (k_Y_segment_124 1838 xv1 xv2 xv3 xw0 xw1 (yAd 10) g) (nk_Y_segment_124 v1 v2 v3 w0 w1 m) := by
  subst ev1
  subst ev2
  subst ev3
  subst ew0
  subst ew1
  unfold k_Y_segment_124 nk_Y_segment_124
  refine y_sI hR hy ya10 yl10 rfl rw1 rfl rw0 (fun g4 m2 hR3 => ?_)
  refine y_Q hR3 hy ya11.1 (by decide) ?_
  refine y_I hR3 hy yk12 yt12 (fun h6 => ?_)
  refine y_sI hR3 hy ya11 yl11 rfl h6 rfl rv3 (fun g10 m8 hR9 => ?_)
  refine rf_bind (fL_Y_segment_138 hy rfl rv1 rfl rv2 rfl rv3 (e_n 0) (show inR 0 by decide) hR9) (fun a12 m11 h => ?_)
  have hR13 : RC w y a12 n m11 := h
  refine y_I hR13 hy yk12 yt12 (fun h14 => ?_)
  refine rf_ck (fun h15 => ?_)
  refine y_pI hR13 hy yk12 ⟨yt12, yz12⟩ (e_add rfl (e_n 1)) h15 (fun g19 m17 hR18 => ?_)
  exact rf_ok (by exact hR18)
noncomputable def nk_Y_segment_74 (v1 : Nat) (v2 : Int) (v3 : Int) (m : YS) : Option (YS) :=
  if (m 14 0) = 0 then
    if (m 12 0) = 0 then
      nk_Y_segment_124 v1 v2 v3 0 (m 12 0) m
    else
      ck ((m 12 0) - 1) <|
      ix ((m 12 0) - 1) 2100 <|
      ck ((m 12 0) - 1) <|
      ix ((m 12 0) - 1) 2100 <|
      ck ((m 10 ((m 12 0) - 1)) + (m 11 ((m 12 0) - 1))) <|
      nk_Y_segment_124 v1 v2 v3 ((m 10 ((m 12 0) - 1)) + (m 11 ((m 12 0) - 1))) (m 12 0) m
  else
    some m
theorem fk_Y_segment_74 {w y : Prop} {g : g_S} {n : NS} {m : YS} (hy : y) {xv1 : Nat} {v1 : Nat} (ev1 : xv1 = yAd v1) (rv1 : v1 < 186 ∧ yT v1 = 1) {xv2 : Int32} {v2 : Int} (ev2 : xv2 = Int32.ofInt v2) (rv2 : inR v2) {xv3 : Int32} {v3 : Int} (ev3 : xv3 = Int32.ofInt v3) (rv3 : inR v3) (hR : RC w y g n m) : Rf (fun a b => RC w y a n b) (k_Y_segment_74 1838 xv1 xv2 xv3 g) (nk_Y_segment_74 v1 v2 v3 m) := by
  subst ev1
  subst ev2
  subst ev3
  unfold k_Y_segment_74 nk_Y_segment_74
  refine y_Z hR hy yk14 yt14 yz14 (fun h1 => ?_)
  refine rf_eq rfl (e_n 0) (inZ.r h1) (show inR 0 by decide) ?_ ?_
  · refine y_Q hR hy ya10.1 (by decide) ?_
    refine y_I hR hy yk12 yt12 (fun h4 => ?_)
    refine y_I hR hy yk12 yt12 (fun h5 => ?_)
    refine rf_eq rfl (e_n 0) h5 (show inR 0 by decide) ?_ ?_
    · exact fk_Y_segment_124 hy rfl rv1 rfl rv2 rfl rv3 (e_n 0) (show inR 0 by decide) rfl h4 hR
    · refine y_Q hR hy ya10.1 (by decide) ?_
      refine y_I hR hy yk12 yt12 (fun h8 => ?_)
      refine rf_ck (fun h9 => ?_)
      refine y_aI hR hy ya10 yl10 (e_sub rfl (e_n 1)) h9 (fun h10 h11 => ?_)
      refine y_Q hR hy ya11.1 (by decide) ?_
      refine y_I hR hy yk12 yt12 (fun h13 => ?_)
      refine rf_ck (fun h14 => ?_)
      refine y_aI hR hy ya11 yl11 (e_sub rfl (e_n 1)) h14 (fun h15 h16 => ?_)
      refine rf_ck (fun h17 => ?_)
      exact fk_Y_segment_124 hy rfl rv1 rfl rv2 rfl rv3 (e_add rfl rfl) h17 rfl h4 hR
  · exact rf_ok (by exact hR)
noncomputable def nk_Y_segment_42 (v1 : Nat) (v2 : Int) (v3 : Int) (w0 : Int) (m : YS) : Option (YS) :=
  cz w0 <|
  st (yw m 14 0 w0) fun m3 =>
  if v3 = 2 then
    if (m3 14 0) = 0 then
      nk_Y_segment_74 v1 v2 v3 m3
    else
      if 0 < (m3 12 0) then
        ck ((m3 12 0) - 1) <|
        st (yw m3 12 0 ((m3 12 0) - 1)) fun m14 =>
        nk_Y_segment_74 v1 v2 v3 m14
      else
        nk_Y_segment_74 v1 v2 v3 m3
  else
    nk_Y_segment_74 v1 v2 v3 m3
theorem fk_Y_segment_42 {w y : Prop} {g : g_S} {n : NS} {m : YS} (hy : y) {xv1 : Nat} {v1 : Nat} (ev1 : xv1 = yAd v1) (rv1 : v1 < 186 ∧ yT v1 = 1) {xv2 : Int32} {v2 : Int} (ev2 : xv2 = Int32.ofInt v2) (rv2 : inR v2) {xv3 : Int32} {v3 : Int} (ev3 : xv3 = Int32.ofInt v3) (rv3 : inR v3) {xw0 : Int32} {w0 : Int} (ew0 : xw0 = Int32.ofInt w0) (rw0 : inR w0) (hR : RC w y g n m) : Rf (fun a b => RC w y a n b) (k_Y_segment_42 1838 xv1 xv2 xv3 xw0 1838 g) (nk_Y_segment_42 v1 v2 v3 w0 m) := by
  subst ev1
  subst ev2
  subst ev3
  subst ew0
  unfold k_Y_segment_42 nk_Y_segment_42
  refine rf_cz (fun h2 => ?_)
  refine y_pZ hR hy yk14 yt14 rfl h2 (fun g5 m3 hR4 => ?_)
  refine rf_eq rfl (e_n 2) rv3 (show inR 2 by decide) ?_ ?_
  · refine y_Z hR4 hy yk14 yt14 yz14 (fun h7 => ?_)
    refine rf_eq rfl (e_n 0) (inZ.r h7) (show inR 0 by decide) ?_ ?_
    · exact fk_Y_segment_74 hy rfl rv1 rfl rv2 rfl rv3 hR4
    · refine y_I hR4 hy yk12 yt12 (fun h9 => ?_)
      refine rf_lt (e_n 0) rfl (show inR 0 by decide) h9 ?_ ?_
      · refine y_I hR4 hy yk12 yt12 (fun h11 => ?_)
        refine rf_ck (fun h12 => ?_)
        refine y_pI hR4 hy yk12 ⟨yt12, yz12⟩ (e_sub rfl (e_n 1)) h12 (fun g16 m14 hR15 => ?_)
        exact fk_Y_segment_74 hy rfl rv1 rfl rv2 rfl rv3 hR15
      · exact fk_Y_segment_74 hy rfl rv1 rfl rv2 rfl rv3 hR4
  · exact fk_Y_segment_74 hy rfl rv1 rfl rv2 rfl rv3 hR4
noncomputable def nk_Y_segment_41 (v1 : Nat) (v2 : Int) (v3 : Int) (m : YS) : Option (YS) :=
  nk_Y_segment_42 v1 v2 v3 0 m
theorem fk_Y_segment_41 {w y : Prop} {g : g_S} {n : NS} {m : YS} (hy : y) {xv1 : Nat} {v1 : Nat} (ev1 : xv1 = yAd v1) (rv1 : v1 < 186 ∧ yT v1 = 1) {xv2 : Int32} {v2 : Int} (ev2 : xv2 = Int32.ofInt v2) (rv2 : inR v2) {xv3 : Int32} {v3 : Int} (ev3 : xv3 = Int32.ofInt v3) (rv3 : inR v3) (hR : RC w y g n m) : Rf (fun a b => RC w y a n b) (k_Y_segment_41 1838 xv1 xv2 xv3 1838 g) (nk_Y_segment_41 v1 v2 v3 m) := by
  subst ev1
  subst ev2
  subst ev3
  unfold k_Y_segment_41 nk_Y_segment_41
  exact fk_Y_segment_42 hy rfl rv1 rfl rv2 rfl rv3 (e_n 0) (show inR 0 by decide) hR
noncomputable def nk_Y_segment_37 (v1 : Nat) (v2 : Int) (v3 : Int) (m : YS) : Option (YS) :=
  nk_Y_segment_42 v1 v2 v3 1 m
theorem fk_Y_segment_37 {w y : Prop} {g : g_S} {n : NS} {m : YS} (hy : y) {xv1 : Nat} {v1 : Nat} (ev1 : xv1 = yAd v1) (rv1 : v1 < 186 ∧ yT v1 = 1) {xv2 : Int32} {v2 : Int} (ev2 : xv2 = Int32.ofInt v2) (rv2 : inR v2) {xv3 : Int32} {v3 : Int} (ev3 : xv3 = Int32.ofInt v3) (rv3 : inR v3) (hR : RC w y g n m) : Rf (fun a b => RC w y a n b) (k_Y_segment_37 1838 xv1 xv2 xv3 1838 g) (nk_Y_segment_37 v1 v2 v3 m) := by
  subst ev1
  subst ev2
  subst ev3
  unfold k_Y_segment_37 nk_Y_segment_37
  exact fk_Y_segment_42 hy rfl rv1 rfl rv2 rfl rv3 (e_n 1) (show inR 1 by decide) hR
noncomputable def nk_Y_segment_14 (v1 : Nat) (v2 : Int) (v3 : Int) (m : YS) : Option (YS) :=
  if v3 = 2 then
    ix v2 (yLn v1 : Int) <|
    if (m v1 v2) = 46 then
      ck (v2 + 1) <|
      ix (v2 + 1) (yLn v1 : Int) <|
      if (m v1 (v2 + 1)) = 46 then
        nk_Y_segment_37 v1 v2 v3 m
      else
        nk_Y_segment_41 v1 v2 v3 m
    else
      nk_Y_segment_41 v1 v2 v3 m
  else
    nk_Y_segment_41 v1 v2 v3 m
theorem fk_Y_segment_14 {w y : Prop} {g : g_S} {n : NS} {m : YS} (hy : y) {xv1 : Nat} {v1 : Nat} (ev1 : xv1 = yAd v1) (rv1 : v1 < 186 ∧ yT v1 = 1) {xv2 : Int32} {v2 : Int} (ev2 : xv2 = Int32.ofInt v2) (rv2 : inR v2) {xv3 : Int32} {v3 : Int} (ev3 : xv3 = Int32.ofInt v3) (rv3 : inR v3) (hR : RC w y g n m) : Rf (fun a b => RC w y a n b) (k_Y_segment_14 1838 xv1 xv2 xv3 1838 g) (nk_Y_segment_14 v1 v2 v3 m) := by
  subst ev1
  subst ev2
  subst ev3
  unfold k_Y_segment_14 nk_Y_segment_14
  refine rf_eq rfl (e_n 2) rv3 (show inR 2 by decide) ?_ ?_
  · refine y_aB hR hy rv1 rfl rfl rv2 (fun h2 h3 => ?_)
    refine rf_eq rfl (e_n 46) (inB.r h3) (show inR 46 by decide) ?_ ?_
    · refine rf_ck (fun h5 => ?_)
      refine y_aB hR hy rv1 rfl (e_add rfl (e_n 1)) h5 (fun h6 h7 => ?_)
      refine rf_eq rfl (e_n 46) (inB.r h7) (show inR 46 by decide) ?_ ?_
      · exact fk_Y_segment_37 hy rfl rv1 rfl rv2 rfl rv3 hR
      · exact fk_Y_segment_41 hy rfl rv1 rfl rv2 rfl rv3 hR
    · exact fk_Y_segment_41 hy rfl rv1 rfl rv2 rfl rv3 hR
  · exact fk_Y_segment_41 hy rfl rv1 rfl rv2 rfl rv3 hR
noncomputable def N_Y_segment (v1 : Nat) (v2 : Int) (v3 : Int) (m : YS) : Option (YS) :=
  if v3 = 1 then
    ix v2 (yLn v1 : Int) <|
    if (m v1 v2) = 46 then
      nk_Y_segment_37 v1 v2 v3 m
    else
      nk_Y_segment_14 v1 v2 v3 m
  else
    nk_Y_segment_14 v1 v2 v3 m
theorem f_Y_segment {w y : Prop} {g : g_S} {n : NS} {m : YS} (hy : y) {xv1 : Nat} {v1 : Nat} (ev1 : xv1 = yAd v1) (rv1 : v1 < 186 ∧ yT v1 = 1) {xv2 : Int32} {v2 : Int} (ev2 : xv2 = Int32.ofInt v2) (rv2 : inR v2) {xv3 : Int32} {v3 : Int} (ev3 : xv3 = Int32.ofInt v3) (rv3 : inR v3) (hR : RC w y g n m) : Rf (fun a b => RC w y a n b) (M_Y_segment 1838 xv1 xv2 xv3 g) (N_Y_segment v1 v2 v3 m) := by
  subst ev1
  subst ev2
  subst ev3
  unfold M_Y_segment N_Y_segment
  refine rf_eq rfl (e_n 1) rv3 (show inR 1 by decide) ?_ ?_
  · refine y_aB hR hy rv1 rfl rfl rv2 (fun h2 h3 => ?_)
    refine rf_eq rfl (e_n 46) (inB.r h3) (show inR 46 by decide) ?_ ?_
    · exact fk_Y_segment_37 hy rfl rv1 rfl rv2 rfl rv3 hR
    · exact fk_Y_segment_14 hy rfl rv1 rfl rv2 rfl rv3 hR
  · exact fk_Y_segment_14 hy rfl rv1 rfl rv2 rfl rv3 hR
noncomputable def nb_Y_oneSegment_5 (v1 : Nat) (v2 : Int) (v3 : Int) (m : YS) : Option ((Int) ⊕ (Int)) :=
  if v3 < v2 then
    ix v3 (yLn v1 : Int) <|
    (N_Y_isSegment (m v1 v3) m).bind fun z5 =>
    if z5 = 0 then
      some (.inr v3)
    else
      ck (v3 + 1) <|
      some (.inl (v3 + 1))
  else
    some (.inr v3)
theorem fb_Y_oneSegment_5 {w y : Prop} {g : g_S} {n : NS} {m : YS} (hy : y) {xv1 : Nat} {v1 : Nat} (ev1 : xv1 = yAd v1) (rv1 : v1 < 186 ∧ yT v1 = 1) {xv2 : Int32} {v2 : Int} (ev2 : xv2 = Int32.ofInt v2) (rv2 : inR v2) {xv3 : Int32} {v3 : Int} (ev3 : xv3 = Int32.ofInt v3) (rv3 : inR v3) (hR : RC w y g n m) : Rf (RS (fun a b => RI a b) (fun a b => RI a b)) (b_Y_oneSegment_5 1838 xv1 xv2 xv3 g) (nb_Y_oneSegment_5 v1 v2 v3 m) := by
  subst ev1
  subst ev2
  subst ev3
  unfold b_Y_oneSegment_5 nb_Y_oneSegment_5
  refine rf_lt rfl rfl rv3 rv2 ?_ ?_
  · refine y_aB hR hy rv1 rfl rfl rv3 (fun h2 h3 => ?_)
    refine rf_bind (f_Y_isSegment hy rfl (inB.r h3) hR) (fun a7 z5 h => ?_)
    obtain ⟨rfl, r6⟩ := h
    refine rf_eq rfl (e_n 0) (inZ.r r6) (show inR 0 by decide) ?_ ?_
    · exact rf_ok (by exact ⟨rfl, rv3⟩)
    · refine rf_ck (fun h9 => ?_)
      exact rf_ok (by exact ⟨(e_add rfl (e_n 1)), h9⟩)
  · exact rf_ok (by exact ⟨rfl, rv3⟩)
noncomputable def NL_Y_oneSegment_5 (v1 : Nat) (v2 : Int) (v3 : Int) (m : YS) : Option (Int) :=
  it (fun s : Int => nb_Y_oneSegment_5 v1 v2 s m) (v3)
theorem fL_Y_oneSegment_5 {w y : Prop} {g : g_S} {n : NS} {m : YS} (hy : y) {xv1 : Nat} {v1 : Nat} (ev1 : xv1 = yAd v1) (rv1 : v1 < 186 ∧ yT v1 = 1) {xv2 : Int32} {v2 : Int} (ev2 : xv2 = Int32.ofInt v2) (rv2 : inR v2) {xv3 : Int32} {v3 : Int} (ev3 : xv3 = Int32.ofInt v3) (rv3 : inR v3) (hR : RC w y g n m) : Rf (fun a b => RI a b) (L_Y_oneSegment_5 1838 xv1 xv2 xv3 g) (NL_Y_oneSegment_5 v1 v2 v3 m) := by
  subst ev1
  subst ev2
  subst ev3
  unfold L_Y_oneSegment_5 NL_Y_oneSegment_5
  refine rf_it (I := (fun a b => RI a b)) (fun s t h => ?_) ⟨rfl, rv3⟩
  exact fb_Y_oneSegment_5 hy rfl rv1 rfl rv2 h.1 h.2 hR
theorem NL_Y_oneSegment_5_eq (v1 : Nat) (v2 : Int) (v3 : Int) (m : YS) : NL_Y_oneSegment_5 v1 v2 v3 m = itc (nb_Y_oneSegment_5 v1 v2 v3 m) (fun s => NL_Y_oneSegment_5 v1 v2 s m) := it_eq2 (fun s : Int => nb_Y_oneSegment_5 v1 v2 s m) (v3)
noncomputable def nk_Y_oneSegment_25 (v1 : Nat) (v3 : Int) (m : YS) : Option (Int × YS) :=
  ck (v3 - (m 15 0)) <|
  if 12 < (v3 - (m 15 0)) then
    some (0, m)
  else
    ck (v3 - (m 15 0)) <|
    (N_Y_segment v1 (m 15 0) (v3 - (m 15 0)) m).bind fun m9 =>
    st (yw m9 15 0 v3) fun m13 =>
    some (1, m13)
theorem fk_Y_oneSegment_25 {w y : Prop} {g : g_S} {n : NS} {m : YS} (hy : y) {xv1 : Nat} {v1 : Nat} (ev1 : xv1 = yAd v1) (rv1 : v1 < 186 ∧ yT v1 = 1) {xv3 : Int32} {v3 : Int} (ev3 : xv3 = Int32.ofInt v3) (rv3 : inR v3) (hR : RC w y g n m) : Rf (fun a b => RZ a.1 b.1 ∧ RC w y a.2 n b.2) (k_Y_oneSegment_25 1838 xv1 xv3 g) (nk_Y_oneSegment_25 v1 v3 m) := by
  subst ev1
  subst ev3
  unfold k_Y_oneSegment_25 nk_Y_oneSegment_25
  refine y_I hR hy yk15 yt15 (fun h1 => ?_)
  refine rf_ck (fun h2 => ?_)
  refine rf_lt (e_n 12) (e_sub rfl rfl) (show inR 12 by decide) h2 ?_ ?_
  · exact rf_ok (by exact ⟨⟨(e_n 0), (.inl rfl)⟩, hR⟩)
  · refine y_I hR hy yk15 yt15 (fun h5 => ?_)
    refine y_I hR hy yk15 yt15 (fun h6 => ?_)
    refine rf_ck (fun h7 => ?_)
    refine v_c (y_gt hR hy) ?_
    refine rf_bind (f_Y_segment hy rfl rv1 rfl h5 (e_sub rfl rfl) h7 hR) (fun g11 m9 hR10 => ?_)
    refine y_pI hR10 hy yk15 ⟨yt15, yz15⟩ rfl rv3 (fun g15 m13 hR14 => ?_)
    exact rf_ok (by exact ⟨⟨(e_n 1), (.inr rfl)⟩, hR14⟩)
noncomputable def N_Y_oneSegment (v1 : Nat) (v2 : Int) (m : YS) : Option (Int × YS) :=
  (NL_Y_oneSegment_5 v1 v2 (m 15 0) m).bind <| fun z2 =>
  nk_Y_oneSegment_25 v1 z2 m
theorem f_Y_oneSegment {w y : Prop} {g : g_S} {n : NS} {m : YS} (hy : y) {xv1 : Nat} {v1 : Nat} (ev1 : xv1 = yAd v1) (rv1 : v1 < 186 ∧ yT v1 = 1) {xv2 : Int32} {v2 : Int} (ev2 : xv2 = Int32.ofInt v2) (rv2 : inR v2) (hR : RC w y g n m) : Rf (fun a b => RZ a.1 b.1 ∧ RC w y a.2 n b.2) (M_Y_oneSegment 1838 xv1 xv2 g) (N_Y_oneSegment v1 v2 m) := by
  subst ev1
  subst ev2
  unfold M_Y_oneSegment N_Y_oneSegment
  refine y_I hR hy yk15 yt15 (fun h1 => ?_)
  refine rf_bind (fL_Y_oneSegment_5 hy rfl rv1 rfl rv2 rfl h1 hR) (fun a3 z2 h => ?_)
  obtain ⟨rfl, r4⟩ := (show RI a3 z2 from h)
  exact fk_Y_oneSegment_25 hy rfl rv1 rfl r4 hR
noncomputable def nb_Y_segments_0 (v1 : Nat) (v2 : Int) (m : YS) : Option ((YS) ⊕ ((YS) ⊕ (YS))) :=
  if (m 15 0) < v2 then
    ix (m 15 0) (yLn v1 : Int) <|
    if (m v1 (m 15 0)) = 47 then
      ck ((m 15 0) + 1) <|
      st (yw m 15 0 ((m 15 0) + 1)) fun m10 =>
      (N_Y_oneSegment v1 v2 m10).bind <| u2 fun z14 m17 =>
      if z14 = 0 then
        some (.inr (.inl m17))
      else
        some (.inl m17)
    else
      some (.inr (.inr m))
  else
    some (.inr (.inr m))
theorem fb_Y_segments_0 {w y : Prop} {g : g_S} {n : NS} {m : YS} (hy : y) {xv1 : Nat} {v1 : Nat} (ev1 : xv1 = yAd v1) (rv1 : v1 < 186 ∧ yT v1 = 1) {xv2 : Int32} {v2 : Int} (ev2 : xv2 = Int32.ofInt v2) (rv2 : inR v2) (hR : RC w y g n m) : Rf (RS (fun a b => RC w y a n b) (RS (fun a b => RC w y a n b) (fun a b => RC w y a n b))) (b_Y_segments_0 1838 xv1 xv2 g) (nb_Y_segments_0 v1 v2 m) := by
  subst ev1
  subst ev2
  unfold b_Y_segments_0 nb_Y_segments_0
  refine y_I hR hy yk15 yt15 (fun h1 => ?_)
  refine rf_lt rfl rfl h1 rv2 ?_ ?_
  · refine y_I hR hy yk15 yt15 (fun h3 => ?_)
    refine y_aB hR hy rv1 rfl rfl h3 (fun h4 h5 => ?_)
    refine rf_eq rfl (e_n 47) (inB.r h5) (show inR 47 by decide) ?_ ?_
    · refine y_I hR hy yk15 yt15 (fun h7 => ?_)
      refine rf_ck (fun h8 => ?_)
      refine y_pI hR hy yk15 ⟨yt15, yz15⟩ (e_add rfl (e_n 1)) h8 (fun g12 m10 hR11 => ?_)
      refine v_c2 (y_gt hR11 hy) ?_
      refine rf_c2 (f_Y_oneSegment hy rfl rv1 rfl rv2 hR11) (fun a16 g19 b h => ?_)
      obtain ⟨z14, m17⟩ := b
      refine rf_v2 ?_
      obtain ⟨rfl, r15⟩ := (show RZ a16 z14 from h.1)
      have hR18 : RC w y g19 n m17 := h.2
      refine rf_eq rfl (e_n 0) (inZ.r r15) (show inR 0 by decide) ?_ ?_
      · exact rf_ok (by exact hR18)
      · exact rf_ok (by exact hR18)
    · exact rf_ok (by exact hR)
  · exact rf_ok (by exact hR)
noncomputable def NL_Y_segments_0 (v1 : Nat) (v2 : Int) (m : YS) : Option ((YS) ⊕ (YS)) :=
  it (fun s : YS => nb_Y_segments_0 v1 v2 s) (m)
theorem fL_Y_segments_0 {w y : Prop} {g : g_S} {n : NS} {m : YS} (hy : y) {xv1 : Nat} {v1 : Nat} (ev1 : xv1 = yAd v1) (rv1 : v1 < 186 ∧ yT v1 = 1) {xv2 : Int32} {v2 : Int} (ev2 : xv2 = Int32.ofInt v2) (rv2 : inR v2) (hR : RC w y g n m) : Rf (RS (fun a b => RC w y a n b) (fun a b => RC w y a n b)) (L_Y_segments_0 1838 xv1 xv2 g) (NL_Y_segments_0 v1 v2 m) := by
  subst ev1
  subst ev2
  unfold L_Y_segments_0 NL_Y_segments_0
  refine rf_it (I := (fun a b => RC w y a n b)) (fun s t h => ?_) hR
  exact fb_Y_segments_0 hy rfl rv1 rfl rv2 h
theorem NL_Y_segments_0_eq (v1 : Nat) (v2 : Int) (m : YS) : NL_Y_segments_0 v1 v2 m = itc (nb_Y_segments_0 v1 v2 m) (fun s => NL_Y_segments_0 v1 v2 s) := it_eq2 (fun s : YS => nb_Y_segments_0 v1 v2 s) (m)
noncomputable def N_Y_segments (v1 : Nat) (v2 : Int) (m : YS) : Option (Int × YS) :=
  (NL_Y_segments_0 v1 v2 m).bind <|
    us (fun m1 =>
    some (0, m1))
    (fun m5 =>
    some (1, m5))
theorem f_Y_segments {w y : Prop} {g : g_S} {n : NS} {m : YS} (hy : y) {xv1 : Nat} {v1 : Nat} (ev1 : xv1 = yAd v1) (rv1 : v1 < 186 ∧ yT v1 = 1) {xv2 : Int32} {v2 : Int} (ev2 : xv2 = Int32.ofInt v2) (rv2 : inR v2) (hR : RC w y g n m) : Rf (fun a b => RZ a.1 b.1 ∧ RC w y a.2 n b.2) (M_Y_segments 1838 xv1 xv2 g) (N_Y_segments v1 v2 m) := by
  subst ev1
  subst ev2
  unfold M_Y_segments N_Y_segments
  refine rf_bind (fL_Y_segments_0 hy rfl rv1 rfl rv2 hR) (fun a b h => rf_us h (fun a2 m1 h => ?_) (fun a6 m5 h => ?_))
  · have hR3 : RC w y a2 n m1 := h
    exact rf_ok (by exact ⟨⟨(e_n 0), (.inl rfl)⟩, hR3⟩)
  · have hR7 : RC w y a6 n m5 := h
    exact rf_ok (by exact ⟨⟨(e_n 1), (.inr rfl)⟩, hR7⟩)
noncomputable def nb_Y_siteEnd_2 (v1 : Int) (v2 : Int) (m : YS) : Option ((Int) ⊕ (Int)) :=
  ck (v1 * 150) <|
  ck ((v1 * 150) + v2) <|
  ix ((v1 * 150) + v2) 9900 <|
  if (m 6 ((v1 * 150) + v2)) = 47 then
    some (.inr v2)
  else
    ck (v2 + 1) <|
    some (.inl (v2 + 1))
theorem fb_Y_siteEnd_2 {w y : Prop} {g : g_S} {n : NS} {m : YS} (hy : y) {xv1 : Int32} {v1 : Int} (ev1 : xv1 = Int32.ofInt v1) (rv1 : inR v1) {xv2 : Int32} {v2 : Int} (ev2 : xv2 = Int32.ofInt v2) (rv2 : inR v2) (hR : RC w y g n m) : Rf (RS (fun a b => RI a b) (fun a b => RI a b)) (b_Y_siteEnd_2 1838 xv1 xv2 g) (nb_Y_siteEnd_2 v1 v2 m) := by
  subst ev1
  subst ev2
  unfold b_Y_siteEnd_2 nb_Y_siteEnd_2
  refine y_Q hR hy ya6.1 (by decide) ?_
  refine rf_ck (fun h2 => ?_)
  refine rf_ck (fun h3 => ?_)
  refine y_aB hR hy ya6 yl6 (e_add (e_mul rfl (e_n 150)) rfl) h3 (fun h4 h5 => ?_)
  refine rf_eq rfl (e_n 47) (inB.r h5) (show inR 47 by decide) ?_ ?_
  · exact rf_ok (by exact ⟨rfl, rv2⟩)
  · refine rf_ck (fun h7 => ?_)
    exact rf_ok (by exact ⟨(e_add rfl (e_n 1)), h7⟩)
noncomputable def NL_Y_siteEnd_2 (v1 : Int) (v2 : Int) (m : YS) : Option (Int) :=
  it (fun s : Int => nb_Y_siteEnd_2 v1 s m) (v2)
theorem fL_Y_siteEnd_2 {w y : Prop} {g : g_S} {n : NS} {m : YS} (hy : y) {xv1 : Int32} {v1 : Int} (ev1 : xv1 = Int32.ofInt v1) (rv1 : inR v1) {xv2 : Int32} {v2 : Int} (ev2 : xv2 = Int32.ofInt v2) (rv2 : inR v2) (hR : RC w y g n m) : Rf (fun a b => RI a b) (L_Y_siteEnd_2 1838 xv1 xv2 g) (NL_Y_siteEnd_2 v1 v2 m) := by
  subst ev1
  subst ev2
  unfold L_Y_siteEnd_2 NL_Y_siteEnd_2
  refine rf_it (I := (fun a b => RI a b)) (fun s t h => ?_) ⟨rfl, rv2⟩
  exact fb_Y_siteEnd_2 hy rfl rv1 h.1 h.2 hR
theorem NL_Y_siteEnd_2_eq (v1 : Int) (v2 : Int) (m : YS) : NL_Y_siteEnd_2 v1 v2 m = itc (nb_Y_siteEnd_2 v1 v2 m) (fun s => NL_Y_siteEnd_2 v1 s m) := it_eq2 (fun s : Int => nb_Y_siteEnd_2 v1 s m) (v2)
noncomputable def N_Y_siteEnd (v1 : Int) (m : YS) : Option (Int) :=
  (NL_Y_siteEnd_2 v1 2 m).bind <| fun z1 =>
  some z1
theorem f_Y_siteEnd {w y : Prop} {g : g_S} {n : NS} {m : YS} (hy : y) {xv1 : Int32} {v1 : Int} (ev1 : xv1 = Int32.ofInt v1) (rv1 : inR v1) (hR : RC w y g n m) : Rf (fun a b => RI a b) (M_Y_siteEnd 1838 xv1 g) (N_Y_siteEnd v1 m) := by
  subst ev1
  unfold M_Y_siteEnd N_Y_siteEnd
  refine rf_bind (fL_Y_siteEnd_2 hy rfl rv1 (e_n 2) (show inR 2 by decide) hR) (fun a2 z1 h => ?_)
  obtain ⟨rfl, r3⟩ := (show RI a2 z1 from h)
  exact rf_ok (by exact ⟨rfl, r3⟩)
noncomputable def nb_Y_queryAt_2 (v1 : Int) (v2 : Int) (m : YS) : Option ((Int) ⊕ (Int)) :=
  ix v1 66 <|
  if v2 < (m 7 v1) then
    ck (v1 * 150) <|
    ck ((v1 * 150) + v2) <|
    ix ((v1 * 150) + v2) 9900 <|
    if (m 6 ((v1 * 150) + v2)) = 63 then
      some (.inr v2)
    else
      ck (v2 + 1) <|
      some (.inl (v2 + 1))
  else
    some (.inr v2)
theorem fb_Y_queryAt_2 {w y : Prop} {g : g_S} {n : NS} {m : YS} (hy : y) {xv1 : Int32} {v1 : Int} (ev1 : xv1 = Int32.ofInt v1) (rv1 : inR v1) {xv2 : Int32} {v2 : Int} (ev2 : xv2 = Int32.ofInt v2) (rv2 : inR v2) (hR : RC w y g n m) : Rf (RS (fun a b => RI a b) (fun a b => RI a b)) (b_Y_queryAt_2 1838 xv1 xv2 g) (nb_Y_queryAt_2 v1 v2 m) := by
  subst ev1
  subst ev2
  unfold b_Y_queryAt_2 nb_Y_queryAt_2
  refine y_Q hR hy ya7.1 (by decide) ?_
  refine y_aI hR hy ya7 yl7 rfl rv1 (fun h2 h3 => ?_)
  refine rf_lt rfl rfl rv2 h3 ?_ ?_
  · refine y_Q hR hy ya6.1 (by decide) ?_
    refine rf_ck (fun h6 => ?_)
    refine rf_ck (fun h7 => ?_)
    refine y_aB hR hy ya6 yl6 (e_add (e_mul rfl (e_n 150)) rfl) h7 (fun h8 h9 => ?_)
    refine rf_eq rfl (e_n 63) (inB.r h9) (show inR 63 by decide) ?_ ?_
    · exact rf_ok (by exact ⟨rfl, rv2⟩)
    · refine rf_ck (fun h11 => ?_)
      exact rf_ok (by exact ⟨(e_add rfl (e_n 1)), h11⟩)
  · exact rf_ok (by exact ⟨rfl, rv2⟩)
noncomputable def NL_Y_queryAt_2 (v1 : Int) (v2 : Int) (m : YS) : Option (Int) :=
  it (fun s : Int => nb_Y_queryAt_2 v1 s m) (v2)
theorem fL_Y_queryAt_2 {w y : Prop} {g : g_S} {n : NS} {m : YS} (hy : y) {xv1 : Int32} {v1 : Int} (ev1 : xv1 = Int32.ofInt v1) (rv1 : inR v1) {xv2 : Int32} {v2 : Int} (ev2 : xv2 = Int32.ofInt v2) (rv2 : inR v2) (hR : RC w y g n m) : Rf (fun a b => RI a b) (L_Y_queryAt_2 1838 xv1 xv2 g) (NL_Y_queryAt_2 v1 v2 m) := by
  subst ev1
  subst ev2
  unfold L_Y_queryAt_2 NL_Y_queryAt_2
  refine rf_it (I := (fun a b => RI a b)) (fun s t h => ?_) ⟨rfl, rv2⟩
  exact fb_Y_queryAt_2 hy rfl rv1 h.1 h.2 hR
theorem NL_Y_queryAt_2_eq (v1 : Int) (v2 : Int) (m : YS) : NL_Y_queryAt_2 v1 v2 m = itc (nb_Y_queryAt_2 v1 v2 m) (fun s => NL_Y_queryAt_2 v1 s m) := it_eq2 (fun s : Int => nb_Y_queryAt_2 v1 s m) (v2)
noncomputable def N_Y_queryAt (v1 : Int) (m : YS) : Option (Int) :=
  (NL_Y_queryAt_2 v1 0 m).bind <| fun z1 =>
  some z1
theorem f_Y_queryAt {w y : Prop} {g : g_S} {n : NS} {m : YS} (hy : y) {xv1 : Int32} {v1 : Int} (ev1 : xv1 = Int32.ofInt v1) (rv1 : inR v1) (hR : RC w y g n m) : Rf (fun a b => RI a b) (M_Y_queryAt 1838 xv1 g) (N_Y_queryAt v1 m) := by
  subst ev1
  unfold M_Y_queryAt N_Y_queryAt
  refine rf_bind (fL_Y_queryAt_2 hy rfl rv1 (e_n 0) (show inR 0 by decide) hR) (fun a2 z1 h => ?_)
  obtain ⟨rfl, r3⟩ := (show RI a2 z1 from h)
  exact rf_ok (by exact ⟨rfl, r3⟩)
noncomputable def nb_Y_baseSegments_24 (v1 : Int) (v2 : Int) (v3 : Int) (v4 : Int) (v5 : Int) (m : YS) : Option ((Int) ⊕ (Int)) :=
  if v5 < v4 then
    ck (v1 * 150) <|
    ck ((v1 * 150) + v5) <|
    ix ((v1 * 150) + v5) 9900 <|
    if (m 6 ((v1 * 150) + v5)) = 47 then
      some (.inr v5)
    else
      ck (v5 + 1) <|
      some (.inl (v5 + 1))
  else
    some (.inr v5)
theorem fb_Y_baseSegments_24 {w y : Prop} {g : g_S} {n : NS} {m : YS} (hy : y) {xv1 : Int32} {v1 : Int} (ev1 : xv1 = Int32.ofInt v1) (rv1 : inR v1) {xv2 : Int32} {v2 : Int} (ev2 : xv2 = Int32.ofInt v2) (rv2 : inR v2) {xv3 : Int32} {v3 : Int} (ev3 : xv3 = Int32.ofInt v3) (rv3 : inR v3) {xv4 : Int32} {v4 : Int} (ev4 : xv4 = Int32.ofInt v4) (rv4 : inR v4) {xv5 : Int32} {v5 : Int} (ev5 : xv5 = Int32.ofInt v5) (rv5 : inR v5) (hR : RC w y g n m) : Rf (RS (fun a b => RI a b) (fun a b => RI a b)) (b_Y_baseSegments_24 1838 xv1 xv2 xv3 xv4 xv5 g) (nb_Y_baseSegments_24 v1 v2 v3 v4 v5 m) := by
  subst ev1
  subst ev2
  subst ev3
  subst ev4
  subst ev5
  unfold b_Y_baseSegments_24 nb_Y_baseSegments_24
  refine rf_lt rfl rfl rv5 rv4 ?_ ?_
  · refine y_Q hR hy ya6.1 (by decide) ?_
    refine rf_ck (fun h3 => ?_)
    refine rf_ck (fun h4 => ?_)
    refine y_aB hR hy ya6 yl6 (e_add (e_mul rfl (e_n 150)) rfl) h4 (fun h5 h6 => ?_)
    refine rf_eq rfl (e_n 47) (inB.r h6) (show inR 47 by decide) ?_ ?_
    · exact rf_ok (by exact ⟨rfl, rv5⟩)
    · refine rf_ck (fun h8 => ?_)
      exact rf_ok (by exact ⟨(e_add rfl (e_n 1)), h8⟩)
  · exact rf_ok (by exact ⟨rfl, rv5⟩)
noncomputable def NL_Y_baseSegments_24 (v1 : Int) (v2 : Int) (v3 : Int) (v4 : Int) (v5 : Int) (m : YS) : Option (Int) :=
  it (fun s : Int => nb_Y_baseSegments_24 v1 v2 v3 v4 s m) (v5)
theorem fL_Y_baseSegments_24 {w y : Prop} {g : g_S} {n : NS} {m : YS} (hy : y) {xv1 : Int32} {v1 : Int} (ev1 : xv1 = Int32.ofInt v1) (rv1 : inR v1) {xv2 : Int32} {v2 : Int} (ev2 : xv2 = Int32.ofInt v2) (rv2 : inR v2) {xv3 : Int32} {v3 : Int} (ev3 : xv3 = Int32.ofInt v3) (rv3 : inR v3) {xv4 : Int32} {v4 : Int} (ev4 : xv4 = Int32.ofInt v4) (rv4 : inR v4) {xv5 : Int32} {v5 : Int} (ev5 : xv5 = Int32.ofInt v5) (rv5 : inR v5) (hR : RC w y g n m) : Rf (fun a b => RI a b) (L_Y_baseSegments_24 1838 xv1 xv2 xv3 xv4 xv5 g) (NL_Y_baseSegments_24 v1 v2 v3 v4 v5 m) := by
  subst ev1
  subst ev2
  subst ev3
  subst ev4
  subst ev5
  unfold L_Y_baseSegments_24 NL_Y_baseSegments_24
  refine rf_it (I := (fun a b => RI a b)) (fun s t h => ?_) ⟨rfl, rv5⟩
  exact fb_Y_baseSegments_24 hy rfl rv1 rfl rv2 rfl rv3 rfl rv4 h.1 h.2 hR
theorem NL_Y_baseSegments_24_eq (v1 : Int) (v2 : Int) (v3 : Int) (v4 : Int) (v5 : Int) (m : YS) : NL_Y_baseSegments_24 v1 v2 v3 v4 v5 m = itc (nb_Y_baseSegments_24 v1 v2 v3 v4 v5 m) (fun s => NL_Y_baseSegments_24 v1 v2 v3 v4 s m) := it_eq2 (fun s : Int => nb_Y_baseSegments_24 v1 v2 v3 v4 s m) (v5)
noncomputable def nk_Y_baseSegments_66 (v1 : Int) (v2 : Int) (v3 : Int) (v4 : Int) (v5 : Int) (m : YS) : Option ((Int × YS) ⊕ (YS)) :=
  ck (v1 * 150) <|
  ck ((v1 * 150) + v3) <|
  ck (((v1 * 150) + v3) + 1) <|
  ck (v5 - v3) <|
  ck ((v5 - v3) - 1) <|
  (N_Y_segment 6 (((v1 * 150) + v3) + 1) ((v5 - v3) - 1) m).bind fun m8 =>
  some (.inl (v5, m8))
theorem fk_Y_baseSegments_66 {w y : Prop} {g : g_S} {n : NS} {m : YS} (hy : y) {xv1 : Int32} {v1 : Int} (ev1 : xv1 = Int32.ofInt v1) (rv1 : inR v1) {xv2 : Int32} {v2 : Int} (ev2 : xv2 = Int32.ofInt v2) (rv2 : inR v2) {xv3 : Int32} {v3 : Int} (ev3 : xv3 = Int32.ofInt v3) (rv3 : inR v3) {xv4 : Int32} {v4 : Int} (ev4 : xv4 = Int32.ofInt v4) (rv4 : inR v4) {xv5 : Int32} {v5 : Int} (ev5 : xv5 = Int32.ofInt v5) (rv5 : inR v5) (hR : RC w y g n m) : Rf (RS (fun a b => RI a.1 b.1 ∧ RC w y a.2 n b.2) (fun a b => RC w y a n b)) (k_Y_baseSegments_66 1838 xv1 xv2 xv3 xv4 xv5 g) (nk_Y_baseSegments_66 v1 v2 v3 v4 v5 m) := by
  subst ev1
  subst ev2
  subst ev3
  subst ev4
  subst ev5
  unfold k_Y_baseSegments_66 nk_Y_baseSegments_66
  refine y_Q hR hy ya6.1 (by decide) ?_
  refine rf_ck (fun h2 => ?_)
  refine rf_ck (fun h3 => ?_)
  refine rf_ck (fun h4 => ?_)
  refine rf_ck (fun h5 => ?_)
  refine rf_ck (fun h6 => ?_)
  refine v_c (y_gt hR hy) ?_
  refine rf_bind (f_Y_segment hy rfl ya6 (e_add (e_add (e_mul rfl (e_n 150)) rfl) (e_n 1)) h4 (e_sub (e_sub rfl rfl) (e_n 1)) h6 hR) (fun g10 m8 hR9 => ?_)
  exact rf_ok (by exact ⟨⟨rfl, rv5⟩, hR9⟩)
noncomputable def nk_Y_baseSegments_55 (v1 : Int) (v2 : Int) (v3 : Int) (v4 : Int) (v5 : Int) (m : YS) : Option ((Int × YS) ⊕ (YS)) :=
  if v2 = 0 then
    if v5 < v4 then
      nk_Y_baseSegments_66 v1 v2 v3 v4 v5 m
    else
      some (.inl (v5, m))
  else
    nk_Y_baseSegments_66 v1 v2 v3 v4 v5 m
theorem fk_Y_baseSegments_55 {w y : Prop} {g : g_S} {n : NS} {m : YS} (hy : y) {xv1 : Int32} {v1 : Int} (ev1 : xv1 = Int32.ofInt v1) (rv1 : inR v1) {xv2 : Int32} {v2 : Int} (ev2 : xv2 = Int32.ofInt v2) (rv2 : inR v2) {xv3 : Int32} {v3 : Int} (ev3 : xv3 = Int32.ofInt v3) (rv3 : inR v3) {xv4 : Int32} {v4 : Int} (ev4 : xv4 = Int32.ofInt v4) (rv4 : inR v4) {xv5 : Int32} {v5 : Int} (ev5 : xv5 = Int32.ofInt v5) (rv5 : inR v5) (hR : RC w y g n m) : Rf (RS (fun a b => RI a.1 b.1 ∧ RC w y a.2 n b.2) (fun a b => RC w y a n b)) (k_Y_baseSegments_55 1838 xv1 xv2 xv3 xv4 xv5 g) (nk_Y_baseSegments_55 v1 v2 v3 v4 v5 m) := by
  subst ev1
  subst ev2
  subst ev3
  subst ev4
  subst ev5
  unfold k_Y_baseSegments_55 nk_Y_baseSegments_55
  refine rf_eq rfl (e_n 0) rv2 (show inR 0 by decide) ?_ ?_
  · refine rf_lt rfl rfl rv5 rv4 ?_ ?_
    · exact fk_Y_baseSegments_66 hy rfl rv1 rfl rv2 rfl rv3 rfl rv4 rfl rv5 hR
    · exact rf_ok (by exact ⟨⟨rfl, rv5⟩, hR⟩)
  · exact fk_Y_baseSegments_66 hy rfl rv1 rfl rv2 rfl rv3 rfl rv4 rfl rv5 hR
noncomputable def nb_Y_baseSegments_13 (v1 : Int) (v2 : Int) (v4 : Int) (v3 : Int) (m : YS) : Option ((Int × YS) ⊕ (YS)) :=
  if v3 < v4 then
    ck (v3 + 1) <|
    (NL_Y_baseSegments_24 v1 v2 v3 v4 (v3 + 1) m).bind <| fun z3 =>
    nk_Y_baseSegments_55 v1 v2 v3 v4 z3 m
  else
    some (.inr m)
theorem fb_Y_baseSegments_13 {w y : Prop} {g : g_S} {n : NS} {m : YS} (hy : y) {xv1 : Int32} {v1 : Int} (ev1 : xv1 = Int32.ofInt v1) (rv1 : inR v1) {xv2 : Int32} {v2 : Int} (ev2 : xv2 = Int32.ofInt v2) (rv2 : inR v2) {xv4 : Int32} {v4 : Int} (ev4 : xv4 = Int32.ofInt v4) (rv4 : inR v4) {xv3 : Int32} {v3 : Int} (ev3 : xv3 = Int32.ofInt v3) (rv3 : inR v3) (hR : RC w y g n m) : Rf (RS (fun a b => RI a.1 b.1 ∧ RC w y a.2 n b.2) (fun a b => RC w y a n b)) (b_Y_baseSegments_13 1838 xv1 xv2 xv4 xv3 g) (nb_Y_baseSegments_13 v1 v2 v4 v3 m) := by
  subst ev1
  subst ev2
  subst ev4
  subst ev3
  unfold b_Y_baseSegments_13 nb_Y_baseSegments_13
  refine rf_lt rfl rfl rv3 rv4 ?_ ?_
  · refine rf_ck (fun h2 => ?_)
    refine rf_bind (fL_Y_baseSegments_24 hy rfl rv1 rfl rv2 rfl rv3 rfl rv4 (e_add rfl (e_n 1)) h2 hR) (fun a4 z3 h => ?_)
    obtain ⟨rfl, r5⟩ := (show RI a4 z3 from h)
    exact fk_Y_baseSegments_55 hy rfl rv1 rfl rv2 rfl rv3 rfl rv4 rfl r5 hR
  · exact rf_ok (by exact hR)
noncomputable def NL_Y_baseSegments_13 (v1 : Int) (v2 : Int) (v4 : Int) (v3 : Int) (m : YS) : Option (YS) :=
  it (fun s : Int × YS => nb_Y_baseSegments_13 v1 v2 v4 s.1 s.2) (v3, m)
theorem fL_Y_baseSegments_13 {w y : Prop} {g : g_S} {n : NS} {m : YS} (hy : y) {xv1 : Int32} {v1 : Int} (ev1 : xv1 = Int32.ofInt v1) (rv1 : inR v1) {xv2 : Int32} {v2 : Int} (ev2 : xv2 = Int32.ofInt v2) (rv2 : inR v2) {xv4 : Int32} {v4 : Int} (ev4 : xv4 = Int32.ofInt v4) (rv4 : inR v4) {xv3 : Int32} {v3 : Int} (ev3 : xv3 = Int32.ofInt v3) (rv3 : inR v3) (hR : RC w y g n m) : Rf (fun a b => RC w y a n b) (L_Y_baseSegments_13 1838 xv1 xv2 xv4 xv3 g) (NL_Y_baseSegments_13 v1 v2 v4 v3 m) := by
  subst ev1
  subst ev2
  subst ev4
  subst ev3
  unfold L_Y_baseSegments_13 NL_Y_baseSegments_13
  refine rf_it (I := (fun a b => RI a.1 b.1 ∧ RC w y a.2 n b.2)) (fun s t h => ?_) ⟨⟨rfl, rv3⟩, hR⟩
  exact fb_Y_baseSegments_13 hy rfl rv1 rfl rv2 rfl rv4 h.1.1 h.1.2 h.2
theorem NL_Y_baseSegments_13_eq (v1 : Int) (v2 : Int) (v4 : Int) (v3 : Int) (m : YS) : NL_Y_baseSegments_13 v1 v2 v4 v3 m = itc (nb_Y_baseSegments_13 v1 v2 v4 v3 m) (fun s => NL_Y_baseSegments_13 v1 v2 v4 s.1 s.2) := it_eq2 (fun s : Int × YS => nb_Y_baseSegments_13 v1 v2 v4 s.1 s.2) (v3, m)
noncomputable def N_Y_baseSegments (v1 : Int) (v2 : Int) (m : YS) : Option (YS) :=
  (N_Y_siteEnd v1 m).bind fun z2 =>
  (N_Y_queryAt v1 m).bind fun z6 =>
  (NL_Y_baseSegments_13 v1 v2 z6 z2 m).bind <| fun m9 =>
  some m9
theorem f_Y_baseSegments {w y : Prop} {g : g_S} {n : NS} {m : YS} (hy : y) {xv1 : Int32} {v1 : Int} (ev1 : xv1 = Int32.ofInt v1) (rv1 : inR v1) {xv2 : Int32} {v2 : Int} (ev2 : xv2 = Int32.ofInt v2) (rv2 : inR v2) (hR : RC w y g n m) : Rf (fun a b => RC w y a n b) (M_Y_baseSegments 1838 xv1 xv2 g) (N_Y_baseSegments v1 v2 m) := by
  subst ev1
  subst ev2
  unfold M_Y_baseSegments N_Y_baseSegments
  refine v_c (y_gt hR hy) ?_
  refine rf_bind (f_Y_siteEnd hy rfl rv1 hR) (fun a4 z2 h => ?_)
  obtain ⟨rfl, r3⟩ := h
  refine v_c (y_gt hR hy) ?_
  refine rf_bind (f_Y_queryAt hy rfl rv1 hR) (fun a8 z6 h => ?_)
  obtain ⟨rfl, r7⟩ := h
  refine rf_bind (fL_Y_baseSegments_13 hy rfl rv1 rfl rv2 rfl r7 rfl r3 hR) (fun a10 m9 h => ?_)
  have hR11 : RC w y a10 n m9 := h
  exact rf_ok (by exact hR11)
noncomputable def N_Y_isQuery (v0 : Int) (m : YS) : Option (Int) :=
  (N_Y_isSegment v0 m).bind fun z2 =>
  if z2 = 0 then
    if v0 = 61 then
      some 1
    else
      if v0 = 38 then
        some 1
      else
        if v0 = 43 then
          some 1
        else
          some 0
  else
    some 1
theorem f_Y_isQuery {w y : Prop} {g : g_S} {n : NS} {m : YS} (hy : y) {xv0 : Int32} {v0 : Int} (ev0 : xv0 = Int32.ofInt v0) (rv0 : inR v0) (hR : RC w y g n m) : Rf (fun a b => RZ a b) (M_Y_isQuery xv0 g) (N_Y_isQuery v0 m) := by
  subst ev0
  unfold M_Y_isQuery N_Y_isQuery
  refine rf_bind (f_Y_isSegment hy rfl rv0 hR) (fun a4 z2 h => ?_)
  obtain ⟨rfl, r3⟩ := h
  refine rf_eq rfl (e_n 0) (inZ.r r3) (show inR 0 by decide) ?_ ?_
  · refine rf_eq rfl (e_n 61) rv0 (show inR 61 by decide) ?_ ?_
    · exact rf_ok (by exact ⟨(e_n 1), (.inr rfl)⟩)
    · refine rf_eq rfl (e_n 38) rv0 (show inR 38 by decide) ?_ ?_
      · exact rf_ok (by exact ⟨(e_n 1), (.inr rfl)⟩)
      · refine rf_eq rfl (e_n 43) rv0 (show inR 43 by decide) ?_ ?_
        · exact rf_ok (by exact ⟨(e_n 1), (.inr rfl)⟩)
        · exact rf_ok (by exact ⟨(e_n 0), (.inl rfl)⟩)
  · exact rf_ok (by exact ⟨(e_n 1), (.inr rfl)⟩)
noncomputable def nb_Y_query_27 (v1 : Nat) (v2 : Int) (v5 : Int) (m : YS) : Option ((Int) ⊕ (Int)) :=
  if v5 < v2 then
    ix v5 (yLn v1 : Int) <|
    (N_Y_isQuery (m v1 v5) m).bind fun z5 =>
    if z5 = 0 then
      some (.inr v5)
    else
      ck (v5 + 1) <|
      some (.inl (v5 + 1))
  else
    some (.inr v5)
theorem fb_Y_query_27 {w y : Prop} {g : g_S} {n : NS} {m : YS} (hy : y) {xv1 : Nat} {v1 : Nat} (ev1 : xv1 = yAd v1) (rv1 : v1 < 186 ∧ yT v1 = 1) {xv2 : Int32} {v2 : Int} (ev2 : xv2 = Int32.ofInt v2) (rv2 : inR v2) {xv5 : Int32} {v5 : Int} (ev5 : xv5 = Int32.ofInt v5) (rv5 : inR v5) (hR : RC w y g n m) : Rf (RS (fun a b => RI a b) (fun a b => RI a b)) (b_Y_query_27 1838 xv1 xv2 xv5 g) (nb_Y_query_27 v1 v2 v5 m) := by
  subst ev1
  subst ev2
  subst ev5
  unfold b_Y_query_27 nb_Y_query_27
  refine rf_lt rfl rfl rv5 rv2 ?_ ?_
  · refine y_aB hR hy rv1 rfl rfl rv5 (fun h2 h3 => ?_)
    refine rf_bind (f_Y_isQuery hy rfl (inB.r h3) hR) (fun a7 z5 h => ?_)
    obtain ⟨rfl, r6⟩ := h
    refine rf_eq rfl (e_n 0) (inZ.r r6) (show inR 0 by decide) ?_ ?_
    · exact rf_ok (by exact ⟨rfl, rv5⟩)
    · refine rf_ck (fun h9 => ?_)
      exact rf_ok (by exact ⟨(e_add rfl (e_n 1)), h9⟩)
  · exact rf_ok (by exact ⟨rfl, rv5⟩)
noncomputable def NL_Y_query_27 (v1 : Nat) (v2 : Int) (v5 : Int) (m : YS) : Option (Int) :=
  it (fun s : Int => nb_Y_query_27 v1 v2 s m) (v5)
theorem fL_Y_query_27 {w y : Prop} {g : g_S} {n : NS} {m : YS} (hy : y) {xv1 : Nat} {v1 : Nat} (ev1 : xv1 = yAd v1) (rv1 : v1 < 186 ∧ yT v1 = 1) {xv2 : Int32} {v2 : Int} (ev2 : xv2 = Int32.ofInt v2) (rv2 : inR v2) {xv5 : Int32} {v5 : Int} (ev5 : xv5 = Int32.ofInt v5) (rv5 : inR v5) (hR : RC w y g n m) : Rf (fun a b => RI a b) (L_Y_query_27 1838 xv1 xv2 xv5 g) (NL_Y_query_27 v1 v2 v5 m) := by
  subst ev1
  subst ev2
  subst ev5
  unfold L_Y_query_27 NL_Y_query_27
  refine rf_it (I := (fun a b => RI a b)) (fun s t h => ?_) ⟨rfl, rv5⟩
  exact fb_Y_query_27 hy rfl rv1 rfl rv2 h.1 h.2 hR
theorem NL_Y_query_27_eq (v1 : Nat) (v2 : Int) (v5 : Int) (m : YS) : NL_Y_query_27 v1 v2 v5 m = itc (nb_Y_query_27 v1 v2 v5 m) (fun s => NL_Y_query_27 v1 v2 s m) := it_eq2 (fun s : Int => nb_Y_query_27 v1 v2 s m) (v5)
noncomputable def nb_Y_query_71 (v1 : Nat) (v2 : Int) (v5 : Int) (v6 : Int) (m : YS) : Option ((Int × YS) ⊕ (YS)) :=
  if v6 < v5 then
    ix v6 (yLn v1 : Int) <|
    (N_Y_put 0 (m v1 v6) m).bind fun m5 =>
    ck (v6 + 1) <|
    some (.inl (v6 + 1, m5))
  else
    some (.inr m)
theorem fb_Y_query_71 {w y : Prop} {g : g_S} {n : NS} {m : YS} (hy : y) {xv1 : Nat} {v1 : Nat} (ev1 : xv1 = yAd v1) (rv1 : v1 < 186 ∧ yT v1 = 1) {xv2 : Int32} {v2 : Int} (ev2 : xv2 = Int32.ofInt v2) (rv2 : inR v2) {xv5 : Int32} {v5 : Int} (ev5 : xv5 = Int32.ofInt v5) (rv5 : inR v5) {xv6 : Int32} {v6 : Int} (ev6 : xv6 = Int32.ofInt v6) (rv6 : inR v6) (hR : RC w y g n m) : Rf (RS (fun a b => RI a.1 b.1 ∧ RC w y a.2 n b.2) (fun a b => RC w y a n b)) (b_Y_query_71 1838 xv1 xv2 xv5 xv6 g) (nb_Y_query_71 v1 v2 v5 v6 m) := by
  subst ev1
  subst ev2
  subst ev5
  subst ev6
  unfold b_Y_query_71 nb_Y_query_71
  refine rf_lt rfl rfl rv6 rv5 ?_ ?_
  · refine y_aB hR hy rv1 rfl rfl rv6 (fun h2 h3 => ?_)
    refine v_c (y_gt hR hy) ?_
    refine rf_bind (f_Y_put hy (e_n 0) (show inR 0 by decide) rfl (inB.r h3) hR) (fun g7 m5 hR6 => ?_)
    refine rf_ck (fun h8 => ?_)
    exact rf_ok (by exact ⟨⟨(e_add rfl (e_n 1)), h8⟩, hR6⟩)
  · exact rf_ok (by exact hR)
noncomputable def NL_Y_query_71 (v1 : Nat) (v2 : Int) (v5 : Int) (v6 : Int) (m : YS) : Option (YS) :=
  it (fun s : Int × YS => nb_Y_query_71 v1 v2 v5 s.1 s.2) (v6, m)
theorem fL_Y_query_71 {w y : Prop} {g : g_S} {n : NS} {m : YS} (hy : y) {xv1 : Nat} {v1 : Nat} (ev1 : xv1 = yAd v1) (rv1 : v1 < 186 ∧ yT v1 = 1) {xv2 : Int32} {v2 : Int} (ev2 : xv2 = Int32.ofInt v2) (rv2 : inR v2) {xv5 : Int32} {v5 : Int} (ev5 : xv5 = Int32.ofInt v5) (rv5 : inR v5) {xv6 : Int32} {v6 : Int} (ev6 : xv6 = Int32.ofInt v6) (rv6 : inR v6) (hR : RC w y g n m) : Rf (fun a b => RC w y a n b) (L_Y_query_71 1838 xv1 xv2 xv5 xv6 g) (NL_Y_query_71 v1 v2 v5 v6 m) := by
  subst ev1
  subst ev2
  subst ev5
  subst ev6
  unfold L_Y_query_71 NL_Y_query_71
  refine rf_it (I := (fun a b => RI a.1 b.1 ∧ RC w y a.2 n b.2)) (fun s t h => ?_) ⟨⟨rfl, rv6⟩, hR⟩
  exact fb_Y_query_71 hy rfl rv1 rfl rv2 rfl rv5 h.1.1 h.1.2 h.2
theorem NL_Y_query_71_eq (v1 : Nat) (v2 : Int) (v5 : Int) (v6 : Int) (m : YS) : NL_Y_query_71 v1 v2 v5 v6 m = itc (nb_Y_query_71 v1 v2 v5 v6 m) (fun s => NL_Y_query_71 v1 v2 v5 s.1 s.2) := it_eq2 (fun s : Int × YS => nb_Y_query_71 v1 v2 v5 s.1 s.2) (v6, m)
noncomputable def nb_Y_query_114 (v1 : Nat) (v2 : Int) (v3 : Int) (v5 : Int) (m : YS) : Option ((Int × YS) ⊕ (YS)) :=
  ix v3 66 <|
  if v5 < (m 7 v3) then
    ck (v3 * 150) <|
    ck ((v3 * 150) + v5) <|
    ix ((v3 * 150) + v5) 9900 <|
    (N_Y_put 0 (m 6 ((v3 * 150) + v5)) m).bind fun m11 =>
    ck (v5 + 1) <|
    some (.inl (v5 + 1, m11))
  else
    some (.inr m)
theorem fb_Y_query_114 {w y : Prop} {g : g_S} {n : NS} {m : YS} (hy : y) {xv1 : Nat} {v1 : Nat} (ev1 : xv1 = yAd v1) (rv1 : v1 < 186 ∧ yT v1 = 1) {xv2 : Int32} {v2 : Int} (ev2 : xv2 = Int32.ofInt v2) (rv2 : inR v2) {xv3 : Int32} {v3 : Int} (ev3 : xv3 = Int32.ofInt v3) (rv3 : inR v3) {xv5 : Int32} {v5 : Int} (ev5 : xv5 = Int32.ofInt v5) (rv5 : inR v5) (hR : RC w y g n m) : Rf (RS (fun a b => RI a.1 b.1 ∧ RC w y a.2 n b.2) (fun a b => RC w y a n b)) (b_Y_query_114 1838 xv1 xv2 xv3 xv5 g) (nb_Y_query_114 v1 v2 v3 v5 m) := by
  subst ev1
  subst ev2
  subst ev3
  subst ev5
  unfold b_Y_query_114 nb_Y_query_114
  refine y_Q hR hy ya7.1 (by decide) ?_
  refine y_aI hR hy ya7 yl7 rfl rv3 (fun h2 h3 => ?_)
  refine rf_lt rfl rfl rv5 h3 ?_ ?_
  · refine y_Q hR hy ya6.1 (by decide) ?_
    refine rf_ck (fun h6 => ?_)
    refine rf_ck (fun h7 => ?_)
    refine y_aB hR hy ya6 yl6 (e_add (e_mul rfl (e_n 150)) rfl) h7 (fun h8 h9 => ?_)
    refine v_c (y_gt hR hy) ?_
    refine rf_bind (f_Y_put hy (e_n 0) (show inR 0 by decide) rfl (inB.r h9) hR) (fun g13 m11 hR12 => ?_)
    refine rf_ck (fun h14 => ?_)
    exact rf_ok (by exact ⟨⟨(e_add rfl (e_n 1)), h14⟩, hR12⟩)
  · exact rf_ok (by exact hR)
noncomputable def NL_Y_query_114 (v1 : Nat) (v2 : Int) (v3 : Int) (v5 : Int) (m : YS) : Option (YS) :=
  it (fun s : Int × YS => nb_Y_query_114 v1 v2 v3 s.1 s.2) (v5, m)
theorem fL_Y_query_114 {w y : Prop} {g : g_S} {n : NS} {m : YS} (hy : y) {xv1 : Nat} {v1 : Nat} (ev1 : xv1 = yAd v1) (rv1 : v1 < 186 ∧ yT v1 = 1) {xv2 : Int32} {v2 : Int} (ev2 : xv2 = Int32.ofInt v2) (rv2 : inR v2) {xv3 : Int32} {v3 : Int} (ev3 : xv3 = Int32.ofInt v3) (rv3 : inR v3) {xv5 : Int32} {v5 : Int} (ev5 : xv5 = Int32.ofInt v5) (rv5 : inR v5) (hR : RC w y g n m) : Rf (fun a b => RC w y a n b) (L_Y_query_114 1838 xv1 xv2 xv3 xv5 g) (NL_Y_query_114 v1 v2 v3 v5 m) := by
  subst ev1
  subst ev2
  subst ev3
  subst ev5
  unfold L_Y_query_114 NL_Y_query_114
  refine rf_it (I := (fun a b => RI a.1 b.1 ∧ RC w y a.2 n b.2)) (fun s t h => ?_) ⟨⟨rfl, rv5⟩, hR⟩
  exact fb_Y_query_114 hy rfl rv1 rfl rv2 rfl rv3 h.1.1 h.1.2 h.2
theorem NL_Y_query_114_eq (v1 : Nat) (v2 : Int) (v3 : Int) (v5 : Int) (m : YS) : NL_Y_query_114 v1 v2 v3 v5 m = itc (nb_Y_query_114 v1 v2 v3 v5 m) (fun s => NL_Y_query_114 v1 v2 v3 s.1 s.2) := it_eq2 (fun s : Int × YS => nb_Y_query_114 v1 v2 v3 s.1 s.2) (v5, m)
noncomputable def nb_Y_query_212 (v1 : Nat) (v2 : Int) (v5 : Int) (v6 : Int) (m : YS) : Option ((Int × YS) ⊕ (YS)) :=
  ix 0 66 <|
  if v6 < (m 8 0) then
    ck (135 + v6) <|
    ck ((m 15 0) + 1) <|
    ck (((m 15 0) + 1) + v6) <|
    ix (((m 15 0) + 1) + v6) (yLn v1 : Int) <|
    ix (135 + v6) 9900 <|
    st (yw m 6 (135 + v6) (m v1 (((m 15 0) + 1) + v6))) fun m13 =>
    ck (v6 + 1) <|
    some (.inl (v6 + 1, m13))
  else
    some (.inr m)
theorem fb_Y_query_212 {w y : Prop} {g : g_S} {n : NS} {m : YS} (hy : y) {xv1 : Nat} {v1 : Nat} (ev1 : xv1 = yAd v1) (rv1 : v1 < 186 ∧ yT v1 = 1) {xv2 : Int32} {v2 : Int} (ev2 : xv2 = Int32.ofInt v2) (rv2 : inR v2) {xv5 : Int32} {v5 : Int} (ev5 : xv5 = Int32.ofInt v5) (rv5 : inR v5) {xv6 : Int32} {v6 : Int} (ev6 : xv6 = Int32.ofInt v6) (rv6 : inR v6) (hR : RC w y g n m) : Rf (RS (fun a b => RI a.1 b.1 ∧ RC w y a.2 n b.2) (fun a b => RC w y a n b)) (b_Y_query_212 1838 xv1 xv2 xv5 xv6 g) (nb_Y_query_212 v1 v2 v5 v6 m) := by
  subst ev1
  subst ev2
  subst ev5
  subst ev6
  unfold b_Y_query_212 nb_Y_query_212
  refine y_Q hR hy ya8.1 (by decide) ?_
  refine y_aI hR hy ya8 yl8 (e_n 0) (show inR 0 by decide) (fun h2 h3 => ?_)
  refine rf_lt rfl rfl rv6 h3 ?_ ?_
  · refine y_Q hR hy ya6.1 (by decide) ?_
    refine rf_ck (fun h6 => ?_)
    refine y_I hR hy yk15 yt15 (fun h7 => ?_)
    refine rf_ck (fun h8 => ?_)
    refine rf_ck (fun h9 => ?_)
    refine y_aB hR hy rv1 rfl (e_add (e_add rfl (e_n 1)) rfl) h9 (fun h10 h11 => ?_)
    refine y_sB hR hy ya6 yl6 (e_add (e_n 135) rfl) h6 rfl h11 (fun g15 m13 hR14 => ?_)
    refine rf_ck (fun h16 => ?_)
    exact rf_ok (by exact ⟨⟨(e_add rfl (e_n 1)), h16⟩, hR14⟩)
  · exact rf_ok (by exact hR)
noncomputable def NL_Y_query_212 (v1 : Nat) (v2 : Int) (v5 : Int) (v6 : Int) (m : YS) : Option (YS) :=
  it (fun s : Int × YS => nb_Y_query_212 v1 v2 v5 s.1 s.2) (v6, m)
theorem fL_Y_query_212 {w y : Prop} {g : g_S} {n : NS} {m : YS} (hy : y) {xv1 : Nat} {v1 : Nat} (ev1 : xv1 = yAd v1) (rv1 : v1 < 186 ∧ yT v1 = 1) {xv2 : Int32} {v2 : Int} (ev2 : xv2 = Int32.ofInt v2) (rv2 : inR v2) {xv5 : Int32} {v5 : Int} (ev5 : xv5 = Int32.ofInt v5) (rv5 : inR v5) {xv6 : Int32} {v6 : Int} (ev6 : xv6 = Int32.ofInt v6) (rv6 : inR v6) (hR : RC w y g n m) : Rf (fun a b => RC w y a n b) (L_Y_query_212 1838 xv1 xv2 xv5 xv6 g) (NL_Y_query_212 v1 v2 v5 v6 m) := by
  subst ev1
  subst ev2
  subst ev5
  subst ev6
  unfold L_Y_query_212 NL_Y_query_212
  refine rf_it (I := (fun a b => RI a.1 b.1 ∧ RC w y a.2 n b.2)) (fun s t h => ?_) ⟨⟨rfl, rv6⟩, hR⟩
  exact fb_Y_query_212 hy rfl rv1 rfl rv2 rfl rv5 h.1.1 h.1.2 h.2
theorem NL_Y_query_212_eq (v1 : Nat) (v2 : Int) (v5 : Int) (v6 : Int) (m : YS) : NL_Y_query_212 v1 v2 v5 v6 m = itc (nb_Y_query_212 v1 v2 v5 v6 m) (fun s => NL_Y_query_212 v1 v2 v5 s.1 s.2) := it_eq2 (fun s : Int × YS => nb_Y_query_212 v1 v2 v5 s.1 s.2) (v6, m)
noncomputable def nk_Y_query_257 (v2 : Int) (m : YS) : Option (Int × YS) :=
  if (m 15 0) = v2 then
    some (1, m)
  else
    some (0, m)
theorem fk_Y_query_257 {w y : Prop} {g : g_S} {n : NS} {m : YS} (hy : y) {xv2 : Int32} {v2 : Int} (ev2 : xv2 = Int32.ofInt v2) (rv2 : inR v2) (hR : RC w y g n m) : Rf (fun a b => RZ a.1 b.1 ∧ RC w y a.2 n b.2) (k_Y_query_257 1838 xv2 g) (nk_Y_query_257 v2 m) := by
  subst ev2
  unfold k_Y_query_257 nk_Y_query_257
  refine y_I hR hy yk15 yt15 (fun h1 => ?_)
  refine rf_eq rfl rfl h1 rv2 ?_ ?_
  · exact rf_ok (by exact ⟨⟨(e_n 1), (.inr rfl)⟩, hR⟩)
  · exact rf_ok (by exact ⟨⟨(e_n 0), (.inl rfl)⟩, hR⟩)
noncomputable def nk_Y_query_149 (v1 : Nat) (v2 : Int) (m : YS) : Option (Int × YS) :=
  if (m 15 0) < v2 then
    ix (m 15 0) (yLn v1 : Int) <|
    if (m v1 (m 15 0)) = 35 then
      ck ((m 15 0) + 1) <|
      (N_Y_nameEnd v1 ((m 15 0) + 1) v2 m).bind fun z10 =>
      ck ((m 15 0) + 1) <|
      if z10 = ((m 15 0) + 1) then
        some (0, m)
      else
        ck (z10 - (m 15 0)) <|
        ck ((z10 - (m 15 0)) - 1) <|
        ix 0 66 <|
        st (yw m 8 0 ((z10 - (m 15 0)) - 1)) fun m22 =>
        (NL_Y_query_212 v1 v2 z10 0 m22).bind <| fun m25 =>
        st (yw m25 15 0 z10) fun m29 =>
        nk_Y_query_257 v2 m29
    else
      nk_Y_query_257 v2 m
  else
    nk_Y_query_257 v2 m
theorem fk_Y_query_149 {w y : Prop} {g : g_S} {n : NS} {m : YS} (hy : y) {xv1 : Nat} {v1 : Nat} (ev1 : xv1 = yAd v1) (rv1 : v1 < 186 ∧ yT v1 = 1) {xv2 : Int32} {v2 : Int} (ev2 : xv2 = Int32.ofInt v2) (rv2 : inR v2) (hR : RC w y g n m) : Rf (fun a b => RZ a.1 b.1 ∧ RC w y a.2 n b.2) (k_Y_query_149 1838 xv1 xv2 g) (nk_Y_query_149 v1 v2 m) := by
  subst ev1
  subst ev2
  unfold k_Y_query_149 nk_Y_query_149
  refine y_I hR hy yk15 yt15 (fun h1 => ?_)
  refine rf_lt rfl rfl h1 rv2 ?_ ?_
  · refine y_I hR hy yk15 yt15 (fun h3 => ?_)
    refine y_aB hR hy rv1 rfl rfl h3 (fun h4 h5 => ?_)
    refine rf_eq rfl (e_n 35) (inB.r h5) (show inR 35 by decide) ?_ ?_
    · refine y_I hR hy yk15 yt15 (fun h7 => ?_)
      refine rf_ck (fun h8 => ?_)
      refine rf_bind (f_Y_nameEnd hy rfl rv1 (e_add rfl (e_n 1)) h8 rfl rv2 hR) (fun a12 z10 h => ?_)
      obtain ⟨rfl, r11⟩ := h
      refine y_I hR hy yk15 yt15 (fun h13 => ?_)
      refine rf_ck (fun h14 => ?_)
      refine rf_eq rfl (e_add rfl (e_n 1)) r11 h14 ?_ ?_
      · exact rf_ok (by exact ⟨⟨(e_n 0), (.inl rfl)⟩, hR⟩)
      · refine y_Q hR hy ya8.1 (by decide) ?_
        refine y_I hR hy yk15 yt15 (fun h18 => ?_)
        refine rf_ck (fun h19 => ?_)
        refine rf_ck (fun h20 => ?_)
        refine y_sI hR hy ya8 yl8 (e_n 0) (show inR 0 by decide) (e_sub (e_sub rfl rfl) (e_n 1)) h20 (fun g24 m22 hR23 => ?_)
        refine rf_bind (fL_Y_query_212 hy rfl rv1 rfl rv2 rfl r11 (e_n 0) (show inR 0 by decide) hR23) (fun a26 m25 h => ?_)
        have hR27 : RC w y a26 n m25 := h
        refine y_pI hR27 hy yk15 ⟨yt15, yz15⟩ rfl r11 (fun g31 m29 hR30 => ?_)
        exact fk_Y_query_257 hy rfl rv2 hR30
    · exact fk_Y_query_257 hy rfl rv2 hR
  · exact fk_Y_query_257 hy rfl rv2 hR
noncomputable def nk_Y_query_102 (v1 : Nat) (v2 : Int) (v3 : Int) (v4 : Int) (m : YS) : Option (Int × YS) :=
  if v4 = 0 then
    (N_Y_queryAt v3 m).bind fun z3 =>
    (NL_Y_query_114 v1 v2 v3 z3 m).bind <| fun m6 =>
    nk_Y_query_149 v1 v2 m6
  else
    nk_Y_query_149 v1 v2 m
theorem fk_Y_query_102 {w y : Prop} {g : g_S} {n : NS} {m : YS} (hy : y) {xv1 : Nat} {v1 : Nat} (ev1 : xv1 = yAd v1) (rv1 : v1 < 186 ∧ yT v1 = 1) {xv2 : Int32} {v2 : Int} (ev2 : xv2 = Int32.ofInt v2) (rv2 : inR v2) {xv3 : Int32} {v3 : Int} (ev3 : xv3 = Int32.ofInt v3) (rv3 : inR v3) {xv4 : Int32} {v4 : Int} (ev4 : xv4 = Int32.ofInt v4) (rv4 : inR v4) (hR : RC w y g n m) : Rf (fun a b => RZ a.1 b.1 ∧ RC w y a.2 n b.2) (k_Y_query_102 1838 xv1 xv2 xv3 xv4 g) (nk_Y_query_102 v1 v2 v3 v4 m) := by
  subst ev1
  subst ev2
  subst ev3
  subst ev4
  unfold k_Y_query_102 nk_Y_query_102
  refine rf_eq rfl (e_n 0) rv4 (show inR 0 by decide) ?_ ?_
  · refine v_c (y_gt hR hy) ?_
    refine rf_bind (f_Y_queryAt hy rfl rv3 hR) (fun a5 z3 h => ?_)
    obtain ⟨rfl, r4⟩ := h
    refine rf_bind (fL_Y_query_114 hy rfl rv1 rfl rv2 rfl rv3 rfl r4 hR) (fun a7 m6 h => ?_)
    have hR8 : RC w y a7 n m6 := h
    exact fk_Y_query_149 hy rfl rv1 rfl rv2 hR8
  · exact fk_Y_query_149 hy rfl rv1 rfl rv2 hR
noncomputable def nk_Y_query_49 (v1 : Nat) (v2 : Int) (v5 : Int) (m : YS) : Option (Int × YS) :=
  ck (v5 - (m 15 0)) <|
  ck ((v5 - (m 15 0)) - 1) <|
  if 40 < ((v5 - (m 15 0)) - 1) then
    some (0, m)
  else
    (NL_Y_query_71 v1 v2 v5 (m 15 0) m).bind <| fun m7 =>
    st (yw m7 15 0 v5) fun m11 =>
    nk_Y_query_149 v1 v2 m11
theorem fk_Y_query_49 {w y : Prop} {g : g_S} {n : NS} {m : YS} (hy : y) {xv1 : Nat} {v1 : Nat} (ev1 : xv1 = yAd v1) (rv1 : v1 < 186 ∧ yT v1 = 1) {xv2 : Int32} {v2 : Int} (ev2 : xv2 = Int32.ofInt v2) (rv2 : inR v2) {xv5 : Int32} {v5 : Int} (ev5 : xv5 = Int32.ofInt v5) (rv5 : inR v5) (hR : RC w y g n m) : Rf (fun a b => RZ a.1 b.1 ∧ RC w y a.2 n b.2) (k_Y_query_49 1838 xv1 xv2 xv5 g) (nk_Y_query_49 v1 v2 v5 m) := by
  subst ev1
  subst ev2
  subst ev5
  unfold k_Y_query_49 nk_Y_query_49
  refine y_I hR hy yk15 yt15 (fun h1 => ?_)
  refine rf_ck (fun h2 => ?_)
  refine rf_ck (fun h3 => ?_)
  refine rf_lt (e_n 40) (e_sub (e_sub rfl rfl) (e_n 1)) (show inR 40 by decide) h3 ?_ ?_
  · exact rf_ok (by exact ⟨⟨(e_n 0), (.inl rfl)⟩, hR⟩)
  · refine y_I hR hy yk15 yt15 (fun h6 => ?_)
    refine rf_bind (fL_Y_query_71 hy rfl rv1 rfl rv2 rfl rv5 rfl h6 hR) (fun a8 m7 h => ?_)
    have hR9 : RC w y a8 n m7 := h
    refine y_pI hR9 hy yk15 ⟨yt15, yz15⟩ rfl rv5 (fun g13 m11 hR12 => ?_)
    exact fk_Y_query_149 hy rfl rv1 rfl rv2 hR12
noncomputable def N_Y_query (v1 : Nat) (v2 : Int) (v3 : Int) (v4 : Int) (m : YS) : Option (Int × YS) :=
  if (m 15 0) < v2 then
    ix (m 15 0) (yLn v1 : Int) <|
    if (m v1 (m 15 0)) = 63 then
      ck ((m 15 0) + 1) <|
      (NL_Y_query_27 v1 v2 ((m 15 0) + 1) m).bind <| fun z9 =>
      nk_Y_query_49 v1 v2 z9 m
    else
      nk_Y_query_102 v1 v2 v3 v4 m
  else
    nk_Y_query_102 v1 v2 v3 v4 m
theorem f_Y_query {w y : Prop} {g : g_S} {n : NS} {m : YS} (hy : y) {xv1 : Nat} {v1 : Nat} (ev1 : xv1 = yAd v1) (rv1 : v1 < 186 ∧ yT v1 = 1) {xv2 : Int32} {v2 : Int} (ev2 : xv2 = Int32.ofInt v2) (rv2 : inR v2) {xv3 : Int32} {v3 : Int} (ev3 : xv3 = Int32.ofInt v3) (rv3 : inR v3) {xv4 : Int32} {v4 : Int} (ev4 : xv4 = Int32.ofInt v4) (rv4 : inR v4) (hR : RC w y g n m) : Rf (fun a b => RZ a.1 b.1 ∧ RC w y a.2 n b.2) (M_Y_query 1838 xv1 xv2 xv3 xv4 g) (N_Y_query v1 v2 v3 v4 m) := by
  subst ev1
  subst ev2
  subst ev3
  subst ev4
  unfold M_Y_query N_Y_query
  refine y_I hR hy yk15 yt15 (fun h1 => ?_)
  refine rf_lt rfl rfl h1 rv2 ?_ ?_
  · refine y_I hR hy yk15 yt15 (fun h3 => ?_)
    refine y_aB hR hy rv1 rfl rfl h3 (fun h4 h5 => ?_)
    refine rf_eq rfl (e_n 63) (inB.r h5) (show inR 63 by decide) ?_ ?_
    · refine y_I hR hy yk15 yt15 (fun h7 => ?_)
      refine rf_ck (fun h8 => ?_)
      refine rf_bind (fL_Y_query_27 hy rfl rv1 rfl rv2 (e_add rfl (e_n 1)) h8 hR) (fun a10 z9 h => ?_)
      obtain ⟨rfl, r11⟩ := (show RI a10 z9 from h)
      exact fk_Y_query_49 hy rfl rv1 rfl rv2 rfl r11 hR
    · exact fk_Y_query_102 hy rfl rv1 rfl rv2 rfl rv3 rfl rv4 hR
  · exact fk_Y_query_102 hy rfl rv1 rfl rv2 rfl rv3 rfl rv4 hR
