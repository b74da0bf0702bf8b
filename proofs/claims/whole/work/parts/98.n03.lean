/-! methods on numbers, group 3 -/
noncomputable def nb_Acts_takeDueTask_4 (v1 : Int) (v2 : Int) (n : NS) : Option ((Int × Int) ⊕ (Int)) :=
  if v2 < (n 0 0 5) then
    ck (2 * v2) <|
    ix (2 * v2) 40 <|
    if (n 6 0 12) < (n 44 0 (2 * v2)) then
      ck (v2 + 1) <|
      some (.inl (v1, v2 + 1))
    else
      if v1 = (-1) then
        ck (v2 + 1) <|
        some (.inl (v2, v2 + 1))
      else
        ck (2 * v2) <|
        ix (2 * v2) 40 <|
        ck (2 * v1) <|
        ix (2 * v1) 40 <|
        if (n 44 0 (2 * v2)) < (n 44 0 (2 * v1)) then
          ck (v2 + 1) <|
          some (.inl (v2, v2 + 1))
        else
          ck (v2 + 1) <|
          some (.inl (v1, v2 + 1))
  else
    some (.inr v1)
theorem fb_Acts_takeDueTask_4 {w y : Prop} {g : g_S} {n : NS} {m : YS} (hw : w) {xv1 : Int32} {v1 : Int} (ev1 : xv1 = Int32.ofInt v1) (rv1 : inR v1) {xv2 : Int32} {v2 : Int} (ev2 : xv2 = Int32.ofInt v2) (rv2 : inR v2) (hR : RC w y g n m) : Rf (RS (fun a b => RI a.1 b.1 ∧ RI a.2 b.2) (fun a b => RI a b)) (b_Acts_takeDueTask_4 1789 xv1 xv2 g) (nb_Acts_takeDueTask_4 v1 v2 n) := by
  subst ev1
  subst ev2
  unfold b_Acts_takeDueTask_4 nb_Acts_takeDueTask_4
  refine c_I (s := 5) hR (sK0 hR hw) rfl rfl (fun h1 => ?_)
  refine rf_lt rfl rfl rv2 h1 ?_ ?_
  · refine c_S hR hw (sK0 hR hw) (by decide) (show srf 0 0 3 = some 1790 from rfl) ?_
    refine rf_ck (fun h4 => ?_)
    refine s_L (L := 40) hR (sA44 hR hw) (lA44 hR hw) rfl (e_mul (e_n 2) rfl) h4 (fun h5 h6 => ?_)
    refine c_S hR hw (sK0 hR hw) (by decide) (show srf 0 0 1 = some 1569 from rfl) ?_
    refine c_I (s := 12) hR (sK6 hR hw) rfl rfl (fun h8 => ?_)
    refine rf_lgt rfl (f_i2l rfl h8) h6 (inR.l h8) ?_ ?_
    · refine rf_ck (fun h10 => ?_)
      exact rf_ok (by exact ⟨⟨rfl, rv1⟩, ⟨(e_add rfl (e_n 1)), h10⟩⟩)
    · refine rf_eq rfl (e_m 1) rv1 (show inR (-1) by decide) ?_ ?_
      · refine rf_ck (fun h12 => ?_)
        exact rf_ok (by exact ⟨⟨rfl, rv2⟩, ⟨(e_add rfl (e_n 1)), h12⟩⟩)
      · refine c_S hR hw (sK0 hR hw) (by decide) (show srf 0 0 3 = some 1790 from rfl) ?_
        refine rf_ck (fun h14 => ?_)
        refine s_L (L := 40) hR (sA44 hR hw) (lA44 hR hw) rfl (e_mul (e_n 2) rfl) h14 (fun h15 h16 => ?_)
        refine c_S hR hw (sK0 hR hw) (by decide) (show srf 0 0 3 = some 1790 from rfl) ?_
        refine rf_ck (fun h18 => ?_)
        refine s_L (L := 40) hR (sA44 hR hw) (lA44 hR hw) rfl (e_mul (e_n 2) rfl) h18 (fun h19 h20 => ?_)
        refine rf_llt rfl rfl h16 h20 ?_ ?_
        · refine rf_ck (fun h22 => ?_)
          exact rf_ok (by exact ⟨⟨rfl, rv2⟩, ⟨(e_add rfl (e_n 1)), h22⟩⟩)
        · refine rf_ck (fun h23 => ?_)
          exact rf_ok (by exact ⟨⟨rfl, rv1⟩, ⟨(e_add rfl (e_n 1)), h23⟩⟩)
  · exact rf_ok (by exact ⟨rfl, rv1⟩)
noncomputable def NL_Acts_takeDueTask_4 (v1 : Int) (v2 : Int) (n : NS) : Option (Int) :=
  it (fun s : Int × Int => nb_Acts_takeDueTask_4 s.1 s.2 n) (v1, v2)
theorem fL_Acts_takeDueTask_4 {w y : Prop} {g : g_S} {n : NS} {m : YS} (hw : w) {xv1 : Int32} {v1 : Int} (ev1 : xv1 = Int32.ofInt v1) (rv1 : inR v1) {xv2 : Int32} {v2 : Int} (ev2 : xv2 = Int32.ofInt v2) (rv2 : inR v2) (hR : RC w y g n m) : Rf (fun a b => RI a b) (L_Acts_takeDueTask_4 1789 xv1 xv2 g) (NL_Acts_takeDueTask_4 v1 v2 n) := by
  subst ev1
  subst ev2
  unfold L_Acts_takeDueTask_4 NL_Acts_takeDueTask_4
  refine rf_it (I := (fun a b => RI a.1 b.1 ∧ RI a.2 b.2)) (fun s t h => ?_) ⟨⟨rfl, rv1⟩, ⟨rfl, rv2⟩⟩
  exact fb_Acts_takeDueTask_4 hw h.1.1 h.1.2 h.2.1 h.2.2 hR
theorem NL_Acts_takeDueTask_4_eq (v1 : Int) (v2 : Int) (n : NS) : NL_Acts_takeDueTask_4 v1 v2 n = itc (nb_Acts_takeDueTask_4 v1 v2 n) (fun s => NL_Acts_takeDueTask_4 s.1 s.2 n) := it_eq2 (fun s : Int × Int => nb_Acts_takeDueTask_4 s.1 s.2 n) (v1, v2)
noncomputable def nb_Acts_takeDueTask_113 (v2 : Int) (v3 : Int) (n : NS) : Option ((Int × NS) ⊕ (NS)) :=
  if v3 < (n 0 0 5) then
    ck (2 * v3) <|
    ck (2 * v3) <|
    ck ((2 * v3) + 2) <|
    ix ((2 * v3) + 2) 40 <|
    ix (2 * v3) 40 <|
    st (nw n 44 0 (2 * v3) (n 44 0 ((2 * v3) + 2))) fun n11 =>
    ck (2 * v3) <|
    ck ((2 * v3) + 1) <|
    ck (2 * v3) <|
    ck ((2 * v3) + 3) <|
    ix ((2 * v3) + 3) 40 <|
    ix ((2 * v3) + 1) 40 <|
    st (nw n11 44 0 ((2 * v3) + 1) (n11 44 0 ((2 * v3) + 3))) fun n23 =>
    ck (v3 + 1) <|
    ix (v3 + 1) 20 <|
    nn (n23 45 0 (v3 + 1)) <|
    ix v3 20 <|
    st (nw n23 45 0 v3 (n23 45 0 (v3 + 1))) fun n32 =>
    ck (v3 + 1) <|
    some (.inl (v3 + 1, n32))
  else
    some (.inr n)
theorem fb_Acts_takeDueTask_113 {w y : Prop} {g : g_S} {n : NS} {m : YS} (hw : w) {xv2 : Nat} {v2 : Int} (ev2 : xv2 = aBy v2) (rv2 : 0 ≤ v2 ∧ v2 ≤ 631) {xv3 : Int32} {v3 : Int} (ev3 : xv3 = Int32.ofInt v3) (rv3 : inR v3) (hR : RC w y g n m) : Rf (RS (fun a b => RI a.1 b.1 ∧ RC w y a.2 b.2 m) (fun a b => RC w y a b m)) (b_Acts_takeDueTask_113 1789 xv2 xv3 g) (nb_Acts_takeDueTask_113 v2 v3 n) := by
  subst ev2
  subst ev3
  unfold b_Acts_takeDueTask_113 nb_Acts_takeDueTask_113
  refine c_I (s := 5) hR (sK0 hR hw) rfl rfl (fun h1 => ?_)
  refine rf_lt rfl rfl rv3 h1 ?_ ?_
  · refine c_S hR hw (sK0 hR hw) (by decide) (show srf 0 0 3 = some 1790 from rfl) ?_
    refine rf_ck (fun h4 => ?_)
    refine c_S hR hw (sK0 hR hw) (by decide) (show srf 0 0 3 = some 1790 from rfl) ?_
    refine rf_ck (fun h6 => ?_)
    refine rf_ck (fun h7 => ?_)
    refine s_L (L := 40) hR (sA44 hR hw) (lA44 hR hw) rfl (e_add (e_mul (e_n 2) rfl) (e_n 2)) h7 (fun h8 h9 => ?_)
    refine t_L (L := 40) hR (sA44 hR hw) (lA44 hR hw) rfl (e_mul (e_n 2) rfl) h4 rfl h9 (fun g13 n11 hR12 => ?_)
    refine c_S hR12 hw (sK0 hR12 hw) (by decide) (show srf 0 0 3 = some 1790 from rfl) ?_
    refine rf_ck (fun h15 => ?_)
    refine rf_ck (fun h16 => ?_)
    refine c_S hR12 hw (sK0 hR12 hw) (by decide) (show srf 0 0 3 = some 1790 from rfl) ?_
    refine rf_ck (fun h18 => ?_)
    refine rf_ck (fun h19 => ?_)
    refine s_L (L := 40) hR12 (sA44 hR12 hw) (lA44 hR12 hw) rfl (e_add (e_mul (e_n 2) rfl) (e_n 3)) h19 (fun h20 h21 => ?_)
    refine t_L (L := 40) hR12 (sA44 hR12 hw) (lA44 hR12 hw) rfl (e_add (e_mul (e_n 2) rfl) (e_n 1)) h16 rfl h21 (fun g25 n23 hR24 => ?_)
    refine c_S hR24 hw (sK0 hR24 hw) (by decide) (show srf 0 0 4 = some 1791 from rfl) ?_
    refine c_S hR24 hw (sK0 hR24 hw) (by decide) (show srf 0 0 4 = some 1791 from rfl) ?_
    refine rf_ck (fun h28 => ?_)
    refine s_Y (L := 20) hR24 (sA45 hR24 hw) (lA45 hR24 hw) rfl (e_add rfl (e_n 1)) h28 (fun h29 h30 => ?_)
    refine t_Q (L := 20) hR24 (sA45 hR24 hw) (by decide) (lA45 hR24 hw) rfl rfl rv3 (fun _ => rfl) (ce_by hR24 hw h30).1 (rc_y h30) (fun g34 n32 hR33 => ?_)
    refine rf_ck (fun h35 => ?_)
    exact rf_ok (by exact ⟨⟨(e_add rfl (e_n 1)), h35⟩, hR33⟩)
  · exact rf_ok (by exact hR)
noncomputable def NL_Acts_takeDueTask_113 (v2 : Int) (v3 : Int) (n : NS) : Option (NS) :=
  it (fun s : Int × NS => nb_Acts_takeDueTask_113 v2 s.1 s.2) (v3, n)
theorem fL_Acts_takeDueTask_113 {w y : Prop} {g : g_S} {n : NS} {m : YS} (hw : w) {xv2 : Nat} {v2 : Int} (ev2 : xv2 = aBy v2) (rv2 : 0 ≤ v2 ∧ v2 ≤ 631) {xv3 : Int32} {v3 : Int} (ev3 : xv3 = Int32.ofInt v3) (rv3 : inR v3) (hR : RC w y g n m) : Rf (fun a b => RC w y a b m) (L_Acts_takeDueTask_113 1789 xv2 xv3 g) (NL_Acts_takeDueTask_113 v2 v3 n) := by
  subst ev2
  subst ev3
  unfold L_Acts_takeDueTask_113 NL_Acts_takeDueTask_113
  refine rf_it (I := (fun a b => RI a.1 b.1 ∧ RC w y a.2 b.2 m)) (fun s t h => ?_) ⟨⟨rfl, rv3⟩, hR⟩
  exact fb_Acts_takeDueTask_113 hw rfl rv2 h.1.1 h.1.2 h.2
theorem NL_Acts_takeDueTask_113_eq (v2 : Int) (v3 : Int) (n : NS) : NL_Acts_takeDueTask_113 v2 v3 n = itc (nb_Acts_takeDueTask_113 v2 v3 n) (fun s => NL_Acts_takeDueTask_113 v2 s.1 s.2) := it_eq2 (fun s : Int × NS => nb_Acts_takeDueTask_113 v2 s.1 s.2) (v3, n)
noncomputable def N_Acts_takeDueTask (n : NS) : Option (Int × NS) :=
  (NL_Acts_takeDueTask_4 (-1) 0 n).bind <| fun z1 =>
  if z1 = (-1) then
    some (0, n)
  else
    if (n 0 0 9) = 0 then
      some (0, n)
    else
      ix z1 20 <|
      nn (n 45 0 z1) <|
      ck (2 * z1) <|
      ck ((2 * z1) + 1) <|
      ix ((2 * z1) + 1) 40 <|
      (N_Acts_startScript (n 45 0 z1) (n 44 0 ((2 * z1) + 1)) n).bind fun n18 =>
      ck ((n18 0 0 5) - 1) <|
      st (nw n18 0 0 5 ((n18 0 0 5) - 1)) fun n24 =>
      (NL_Acts_takeDueTask_113 (n 45 0 z1) z1 n24).bind <| fun n27 =>
      ix (n27 0 0 5) 20 <|
      st (nw n27 45 0 (n27 0 0 5) (n 45 0 z1)) fun n33 =>
      some (1, n33)
theorem f_Acts_takeDueTask {w y : Prop} {g : g_S} {n : NS} {m : YS} (hw : w) (hR : RC w y g n m) : Rf (fun a b => RZ a.1 b.1 ∧ RC w y a.2 b.2 m) (M_Acts_takeDueTask 1789 g) (N_Acts_takeDueTask n) := by
  unfold M_Acts_takeDueTask N_Acts_takeDueTask
  refine rf_bind (fL_Acts_takeDueTask_4 hw (e_m 1) (show inR (-1) by decide) (e_n 0) (show inR 0 by decide) hR) (fun a2 z1 h => ?_)
  obtain ⟨rfl, r3⟩ := (show RI a2 z1 from h)
  refine rf_eq rfl (e_m 1) r3 (show inR (-1) by decide) ?_ ?_
  · exact rf_ok (by exact ⟨⟨(e_n 0), (.inl rfl)⟩, hR⟩)
  · refine c_I (s := 9) hR (sK0 hR hw) rfl rfl (fun h6 => ?_)
    refine rf_eq rfl (e_n 0) h6 (show inR 0 by decide) ?_ ?_
    · exact rf_ok (by exact ⟨⟨(e_n 0), (.inl rfl)⟩, hR⟩)
    · refine c_S hR hw (sK0 hR hw) (by decide) (show srf 0 0 4 = some 1791 from rfl) ?_
      refine s_Y (L := 20) hR (sA45 hR hw) (lA45 hR hw) rfl rfl r3 (fun h10 h11 => ?_)
      refine c_S hR hw (sK0 hR hw) (by decide) (show srf 0 0 3 = some 1790 from rfl) ?_
      refine rf_ck (fun h13 => ?_)
      refine rf_ck (fun h14 => ?_)
      refine s_L (L := 40) hR (sA44 hR hw) (lA44 hR hw) rfl (e_add (e_mul (e_n 2) rfl) (e_n 1)) h14 (fun h15 h16 => ?_)
      refine v_c (sK0 hR hw).1 ?_
      refine rf_bind (f_Acts_startScript hw rfl h11 rfl h16 hR) (fun g20 n18 hR19 => ?_)
      refine c_I (s := 5) hR19 (sK0 hR19 hw) rfl rfl (fun h21 => ?_)
      refine rf_ck (fun h22 => ?_)
      refine p_I (s := 5) hR19 (sK0 hR19 hw) rfl ⟨rfl, rfl, by decide⟩ (e_sub rfl (e_n 1)) h22 (fun g26 n24 hR25 => ?_)
      refine rf_bind (fL_Acts_takeDueTask_113 hw rfl h11 rfl r3 hR25) (fun a28 n27 h => ?_)
      have hR29 : RC w y a28 n27 m := h
      refine c_S hR29 hw (sK0 hR29 hw) (by decide) (show srf 0 0 4 = some 1791 from rfl) ?_
      refine c_I (s := 5) hR29 (sK0 hR29 hw) rfl rfl (fun h31 => ?_)
      refine t_Q (L := 20) hR29 (sA45 hR29 hw) (by decide) (lA45 hR29 hw) rfl rfl h31 (fun _ => rfl) (ce_by hR29 hw h11).1 (rc_y h11) (fun g35 n33 hR34 => ?_)
      exact rf_ok (by exact ⟨⟨(e_n 1), (.inr rfl)⟩, hR34⟩)
noncomputable def nb_H_tick_37 (v2 : Int) (v3 : Int) (n : NS) : Option ((Int × Int × NS) ⊕ (Int × NS)) :=
  if v3 < 100000 then
    (N_Acts_takeDueTask n).bind <| u2 fun z5 n8 =>
    if z5 = 0 then
      some (.inr (v2, n8))
    else
      ck (v2 + 1) <|
      (N_Acts_settle n8).bind fun n15 =>
      ck (v3 + 1) <|
      some (.inl (v2 + 1, v3 + 1, n15))
  else
    some (.inr (v2, n))
theorem fb_H_tick_37 {w y : Prop} {g : g_S} {n : NS} {m : YS} (hw : w) {xv2 : Int32} {v2 : Int} (ev2 : xv2 = Int32.ofInt v2) (rv2 : inR v2) {xv3 : Int32} {v3 : Int} (ev3 : xv3 = Int32.ofInt v3) (rv3 : inR v3) (hR : RC w y g n m) : Rf (RS (fun a b => RI a.1 b.1 ∧ RI a.2.1 b.2.1 ∧ RC w y a.2.2 b.2.2 m) (fun a b => RI a.1 b.1 ∧ RC w y a.2 b.2 m)) (b_H_tick_37 0 xv2 xv3 g) (nb_H_tick_37 v2 v3 n) := by
  subst ev2
  subst ev3
  unfold b_H_tick_37 nb_H_tick_37
  refine rf_lt rfl (e_n 100000) rv3 (show inR 100000 by decide) ?_ ?_
  · refine c_S hR hw (sK11 hR hw) (by decide) (show srf 11 0 7 = some 1789 from rfl) ?_
    refine v_c2 (sK0 hR hw).1 ?_
    refine rf_c2 (f_Acts_takeDueTask hw hR) (fun a7 g10 b h => ?_)
    obtain ⟨z5, n8⟩ := b
    refine rf_v2 ?_
    obtain ⟨rfl, r6⟩ := (show RZ a7 z5 from h.1)
    have hR9 : RC w y g10 n8 m := h.2
    refine rf_eq rfl (e_n 0) (inZ.r r6) (show inR 0 by decide) ?_ ?_
    · exact rf_ok (by exact ⟨⟨rfl, rv2⟩, hR9⟩)
    · refine rf_ck (fun h12 => ?_)
      refine c_S hR9 hw (sK11 hR9 hw) (by decide) (show srf 11 0 7 = some 1789 from rfl) ?_
      refine v_c (sK0 hR9 hw).1 ?_
      refine rf_bind (f_Acts_settle hw hR9) (fun g17 n15 hR16 => ?_)
      refine rf_ck (fun h18 => ?_)
      exact rf_ok (by exact ⟨⟨(e_add rfl (e_n 1)), h12⟩, ⟨(e_add rfl (e_n 1)), h18⟩, hR16⟩)
  · exact rf_ok (by exact ⟨⟨rfl, rv2⟩, hR⟩)
noncomputable def NL_H_tick_37 (v2 : Int) (v3 : Int) (n : NS) : Option (Int × NS) :=
  it (fun s : Int × Int × NS => nb_H_tick_37 s.1 s.2.1 s.2.2) (v2, v3, n)
theorem fL_H_tick_37 {w y : Prop} {g : g_S} {n : NS} {m : YS} (hw : w) {xv2 : Int32} {v2 : Int} (ev2 : xv2 = Int32.ofInt v2) (rv2 : inR v2) {xv3 : Int32} {v3 : Int} (ev3 : xv3 = Int32.ofInt v3) (rv3 : inR v3) (hR : RC w y g n m) : Rf (fun a b => RI a.1 b.1 ∧ RC w y a.2 b.2 m) (L_H_tick_37 0 xv2 xv3 g) (NL_H_tick_37 v2 v3 n) := by
  subst ev2
  subst ev3
  unfold L_H_tick_37 NL_H_tick_37
  refine rf_it (I := (fun a b => RI a.1 b.1 ∧ RI a.2.1 b.2.1 ∧ RC w y a.2.2 b.2.2 m)) (fun s t h => ?_) ⟨⟨rfl, rv2⟩, ⟨rfl, rv3⟩, hR⟩
  exact fb_H_tick_37 hw h.1.1 h.1.2 h.2.1.1 h.2.1.2 h.2.2
theorem NL_H_tick_37_eq (v2 : Int) (v3 : Int) (n : NS) : NL_H_tick_37 v2 v3 n = itc (nb_H_tick_37 v2 v3 n) (fun s => NL_H_tick_37 s.1 s.2.1 s.2.2) := it_eq2 (fun s : Int × Int × NS => nb_H_tick_37 s.1 s.2.1 s.2.2) (v2, v3, n)
noncomputable def N_H_tick (v1 : Int) (n : NS) : Option (Int × NS) :=
  if v1 < 0 then
    some ((-1), n)
  else
    if 1000 < v1 then
      some ((-1), n)
    else
      ck ((n 6 0 12) + v1) <|
      st (nw n 6 0 12 ((n 6 0 12) + v1)) fun n9 =>
      (N_Acts_begin n9).bind fun n14 =>
      (NL_H_tick_37 0 0 n14).bind <| u2 fun z17 n18 =>
      some (z17, n18)
theorem f_H_tick {w y : Prop} {g : g_S} {n : NS} {m : YS} (hw : w) {xv1 : Int32} {v1 : Int} (ev1 : xv1 = Int32.ofInt v1) (rv1 : inR v1) (hR : RC w y g n m) : Rf (fun a b => RI a.1 b.1 ∧ RC w y a.2 b.2 m) (M_H_tick 0 xv1 g) (N_H_tick v1 n) := by
  subst ev1
  unfold M_H_tick N_H_tick
  refine rf_lt rfl (e_n 0) rv1 (show inR 0 by decide) ?_ ?_
  · exact rf_ok (by exact ⟨⟨(e_m 1), (show inR (-1) by decide)⟩, hR⟩)
  · refine rf_lt (e_n 1000) rfl (show inR 1000 by decide) rv1 ?_ ?_
    · exact rf_ok (by exact ⟨⟨(e_m 1), (show inR (-1) by decide)⟩, hR⟩)
    · refine c_S hR hw (sK11 hR hw) (by decide) (show srf 11 0 3 = some 1569 from rfl) ?_
      refine c_I (s := 12) hR (sK6 hR hw) rfl rfl (fun h6 => ?_)
      refine rf_ck (fun h7 => ?_)
      refine p_I (s := 12) hR (sK6 hR hw) rfl ⟨rfl, rfl, by decide⟩ (e_add rfl rfl) h7 (fun g11 n9 hR10 => ?_)
      refine c_S hR10 hw (sK11 hR10 hw) (by decide) (show srf 11 0 7 = some 1789 from rfl) ?_
      refine v_c (sK0 hR10 hw).1 ?_
      refine rf_bind (f_Acts_begin hw hR10) (fun g16 n14 hR15 => ?_)
      refine rf_bind (fL_H_tick_37 hw (e_n 0) (show inR 0 by decide) (e_n 0) (show inR 0 by decide) hR15) (fun a b h => ?_)
      obtain ⟨a19, a20⟩ := a
      obtain ⟨z17, n18⟩ := b
      refine rf_u2 ?_
      obtain ⟨rfl, r22⟩ := (show RI a19 z17 from h.1)
      have hR21 : RC w y a20 n18 m := h.2
      exact rf_ok (by exact ⟨⟨rfl, r22⟩, hR21⟩)
noncomputable def N_H_isNode (v1 : Int) (n : NS) : Option (Int) :=
  if v1 < 0 then
    some 0
  else
    if v1 < 120 then
      ix v1 120 <|
      if (n 7 v1 0) = (-1) then
        some 0
      else
        some 1
    else
      some 0
theorem f_H_isNode {w y : Prop} {g : g_S} {n : NS} {m : YS} (hw : w) {xv1 : Int32} {v1 : Int} (ev1 : xv1 = Int32.ofInt v1) (rv1 : inR v1) (hR : RC w y g n m) : Rf (fun a b => RZ a b) (M_H_isNode 0 xv1 g) (N_H_isNode v1 n) := by
  subst ev1
  unfold M_H_isNode N_H_isNode
  refine rf_lt rfl (e_n 0) rv1 (show inR 0 by decide) ?_ ?_
  · exact rf_ok (by exact ⟨(e_n 0), (.inl rfl)⟩)
  · refine rf_lt rfl (e_n 120) rv1 (show inR 120 by decide) ?_ ?_
    · refine c_S hR hw (sK11 hR hw) (by decide) (show srf 11 0 2 = some 5 from rfl) ?_
      refine c_S hR hw (sK10 hR hw) (by decide) (show srf 10 0 0 = some 6 from rfl) ?_
      refine s_S (p := aNd (_)) (L := 120) hR hw (sA20 hR hw) (by decide) (lA20 hR hw) rfl rfl rv1 (fun z1 z2 => srf20 z1 z2) (fun h6 => ?_)
      refine c_I (s := 0) hR (ce_nd hR hw (And.intro h6.1 (Int.le_of_lt h6.2))) rfl rfl (fun h8 => ?_)
      refine rf_eq rfl (e_m 1) h8 (show inR (-1) by decide) ?_ ?_
      · exact rf_ok (by exact ⟨(e_n 0), (.inl rfl)⟩)
      · exact rf_ok (by exact ⟨(e_n 1), (.inr rfl)⟩)
    · exact rf_ok (by exact ⟨(e_n 0), (.inl rfl)⟩)
noncomputable def nb_Tree_rankOf_35 (v1 : Int) (v2 : Int) (v3 : Int) (n : NS) : Option ((Int × Int) ⊕ (Int)) :=
  if v3 = (-1) then
    some (.inr v2)
  else
    if v3 = v1 then
      some (.inr v2)
    else
      ck (v2 + 1) <|
      ix v3 120 <|
      some (.inl (v2 + 1, (n 7 v3 5)))
theorem fb_Tree_rankOf_35 {w y : Prop} {g : g_S} {n : NS} {m : YS} (hw : w) {xv1 : Int32} {v1 : Int} (ev1 : xv1 = Int32.ofInt v1) (rv1 : inR v1) {xv2 : Int32} {v2 : Int} (ev2 : xv2 = Int32.ofInt v2) (rv2 : inR v2) {xv3 : Int32} {v3 : Int} (ev3 : xv3 = Int32.ofInt v3) (rv3 : inR v3) (hR : RC w y g n m) : Rf (RS (fun a b => RI a.1 b.1 ∧ RI a.2 b.2) (fun a b => RI a b)) (b_Tree_rankOf_35 5 xv1 xv2 xv3 g) (nb_Tree_rankOf_35 v1 v2 v3 n) := by
  subst ev1
  subst ev2
  subst ev3
  unfold b_Tree_rankOf_35 nb_Tree_rankOf_35
  refine rf_eq rfl (e_m 1) rv3 (show inR (-1) by decide) ?_ ?_
  · exact rf_ok (by exact ⟨rfl, rv2⟩)
  · refine rf_eq rfl rfl rv3 rv1 ?_ ?_
    · exact rf_ok (by exact ⟨rfl, rv2⟩)
    · refine rf_ck (fun h3 => ?_)
      refine c_S hR hw (sK10 hR hw) (by decide) (show srf 10 0 0 = some 6 from rfl) ?_
      refine s_S (p := aNd (_)) (L := 120) hR hw (sA20 hR hw) (by decide) (lA20 hR hw) rfl rfl rv3 (fun z1 z2 => srf20 z1 z2) (fun h5 => ?_)
      refine c_I (s := 5) hR (ce_nd hR hw (And.intro h5.1 (Int.le_of_lt h5.2))) rfl rfl (fun h7 => ?_)
      exact rf_ok (by exact ⟨⟨(e_add rfl (e_n 1)), h3⟩, ⟨rfl, h7⟩⟩)
noncomputable def NL_Tree_rankOf_35 (v1 : Int) (v2 : Int) (v3 : Int) (n : NS) : Option (Int) :=
  it (fun s : Int × Int => nb_Tree_rankOf_35 v1 s.1 s.2 n) (v2, v3)
theorem fL_Tree_rankOf_35 {w y : Prop} {g : g_S} {n : NS} {m : YS} (hw : w) {xv1 : Int32} {v1 : Int} (ev1 : xv1 = Int32.ofInt v1) (rv1 : inR v1) {xv2 : Int32} {v2 : Int} (ev2 : xv2 = Int32.ofInt v2) (rv2 : inR v2) {xv3 : Int32} {v3 : Int} (ev3 : xv3 = Int32.ofInt v3) (rv3 : inR v3) (hR : RC w y g n m) : Rf (fun a b => RI a b) (L_Tree_rankOf_35 5 xv1 xv2 xv3 g) (NL_Tree_rankOf_35 v1 v2 v3 n) := by
  subst ev1
  subst ev2
  subst ev3
  unfold L_Tree_rankOf_35 NL_Tree_rankOf_35
  refine rf_it (I := (fun a b => RI a.1 b.1 ∧ RI a.2 b.2)) (fun s t h => ?_) ⟨⟨rfl, rv2⟩, ⟨rfl, rv3⟩⟩
  exact fb_Tree_rankOf_35 hw rfl rv1 h.1.1 h.1.2 h.2.1 h.2.2 hR
theorem NL_Tree_rankOf_35_eq (v1 : Int) (v2 : Int) (v3 : Int) (n : NS) : NL_Tree_rankOf_35 v1 v2 v3 n = itc (nb_Tree_rankOf_35 v1 v2 v3 n) (fun s => NL_Tree_rankOf_35 v1 s.1 s.2 n) := it_eq2 (fun s : Int × Int => nb_Tree_rankOf_35 v1 s.1 s.2 n) (v2, v3)
noncomputable def N_Tree_rankOf (v1 : Int) (n : NS) : Option (Int) :=
  ix v1 120 <|
  if (n 7 v1 2) = (-1) then
    some 0
  else
    ix v1 120 <|
    ix (n 7 v1 2) 120 <|
    (NL_Tree_rankOf_35 v1 0 (n 7 (n 7 v1 2) 3) n).bind <| fun z15 =>
    some z15
theorem f_Tree_rankOf {w y : Prop} {g : g_S} {n : NS} {m : YS} (hw : w) {xv1 : Int32} {v1 : Int} (ev1 : xv1 = Int32.ofInt v1) (rv1 : inR v1) (hR : RC w y g n m) : Rf (fun a b => RI a b) (M_Tree_rankOf 5 xv1 g) (N_Tree_rankOf v1 n) := by
  subst ev1
  unfold M_Tree_rankOf N_Tree_rankOf
  refine c_S hR hw (sK10 hR hw) (by decide) (show srf 10 0 0 = some 6 from rfl) ?_
  refine s_S (p := aNd (_)) (L := 120) hR hw (sA20 hR hw) (by decide) (lA20 hR hw) rfl rfl rv1 (fun z1 z2 => srf20 z1 z2) (fun h2 => ?_)
  refine c_I (s := 2) hR (ce_nd hR hw (And.intro h2.1 (Int.le_of_lt h2.2))) rfl rfl (fun h4 => ?_)
  refine rf_eq rfl (e_m 1) h4 (show inR (-1) by decide) ?_ ?_
  · exact rf_ok (by exact ⟨(e_n 0), (show inR 0 by decide)⟩)
  · refine c_S hR hw (sK10 hR hw) (by decide) (show srf 10 0 0 = some 6 from rfl) ?_
    refine c_S hR hw (sK10 hR hw) (by decide) (show srf 10 0 0 = some 6 from rfl) ?_
    refine s_S (p := aNd (_)) (L := 120) hR hw (sA20 hR hw) (by decide) (lA20 hR hw) rfl rfl rv1 (fun z1 z2 => srf20 z1 z2) (fun h9 => ?_)
    refine c_I (s := 2) hR (ce_nd hR hw (And.intro h9.1 (Int.le_of_lt h9.2))) rfl rfl (fun h11 => ?_)
    refine s_S (p := aNd (_)) (L := 120) hR hw (sA20 hR hw) (by decide) (lA20 hR hw) rfl rfl h11 (fun z1 z2 => srf20 z1 z2) (fun h12 => ?_)
    refine c_I (s := 3) hR (ce_nd hR hw (And.intro h12.1 (Int.le_of_lt h12.2))) rfl rfl (fun h14 => ?_)
    refine rf_bind (fL_Tree_rankOf_35 hw rfl rv1 (e_n 0) (show inR 0 by decide) rfl h14 hR) (fun a16 z15 h => ?_)
    obtain ⟨rfl, r17⟩ := (show RI a16 z15 from h)
    exact rf_ok (by exact ⟨rfl, r17⟩)
noncomputable def N_H_node (v1 : Int) (v2 : Int) (n : NS) : Option (Int) :=
  (N_H_isNode v1 n).bind fun z2 =>
  if z2 = 0 then
    some (-1)
  else
    ix v1 120 <|
    if v2 = 0 then
      some (n 7 v1 0)
    else if v2 = 1 then
      some (n 7 v1 2)
    else if v2 = 2 then
      some (n 7 v1 6)
    else if v2 = 3 then
      (N_Tree_rankOf v1 n).bind fun z20 =>
      some z20
    else if v2 = 4 then
      some (n 7 v1 12)
    else if v2 = 5 then
      if (n 7 v1 0) = 17 then
        some (n 4 (5 * v1) 2)
      else
        some 0
    else
      some (-1)
theorem f_H_node {w y : Prop} {g : g_S} {n : NS} {m : YS} (hw : w) {xv1 : Int32} {v1 : Int} (ev1 : xv1 = Int32.ofInt v1) (rv1 : inR v1) {xv2 : Int32} {v2 : Int} (ev2 : xv2 = Int32.ofInt v2) (rv2 : inR v2) (hR : RC w y g n m) : Rf (fun a b => RI a b) (M_H_node 0 xv1 xv2 g) (N_H_node v1 v2 n) := by
  subst ev1
  subst ev2
  unfold M_H_node N_H_node
  refine v_c (sK11 hR hw).1 ?_
  refine rf_bind (f_H_isNode hw rfl rv1 hR) (fun a4 z2 h => ?_)
  obtain ⟨rfl, r3⟩ := h
  refine rf_eq rfl (e_n 0) (inZ.r r3) (show inR 0 by decide) ?_ ?_
  · exact rf_ok (by exact ⟨(e_m 1), (show inR (-1) by decide)⟩)
  · refine c_S hR hw (sK11 hR hw) (by decide) (show srf 11 0 2 = some 5 from rfl) ?_
    refine c_S hR hw (sK10 hR hw) (by decide) (show srf 10 0 0 = some 6 from rfl) ?_
    refine s_S (p := aNd (_)) (L := 120) hR hw (sA20 hR hw) (by decide) (lA20 hR hw) rfl rfl rv1 (fun z1 z2 => srf20 z1 z2) (fun h9 => ?_)
    refine rf_eq rfl (e_n 0) rv2 (show inR 0 by decide) ?_ ?_
    · refine c_I (s := 0) hR (ce_nd hR hw (And.intro h9.1 (Int.le_of_lt h9.2))) rfl rfl (fun h12 => ?_)
      exact rf_ok (by exact ⟨rfl, h12⟩)
    refine rf_eq rfl (e_n 1) rv2 (show inR 1 by decide) ?_ ?_
    · refine c_I (s := 2) hR (ce_nd hR hw (And.intro h9.1 (Int.le_of_lt h9.2))) rfl rfl (fun h14 => ?_)
      exact rf_ok (by exact ⟨rfl, h14⟩)
    refine rf_eq rfl (e_n 2) rv2 (show inR 2 by decide) ?_ ?_
    · refine c_I (s := 6) hR (ce_nd hR hw (And.intro h9.1 (Int.le_of_lt h9.2))) rfl rfl (fun h16 => ?_)
      exact rf_ok (by exact ⟨rfl, h16⟩)
    refine rf_eq rfl (e_n 3) rv2 (show inR 3 by decide) ?_ ?_
    · refine c_S hR hw (sK11 hR hw) (by decide) (show srf 11 0 2 = some 5 from rfl) ?_
      refine v_c (sK10 hR hw).1 ?_
      refine rf_bind (f_Tree_rankOf hw rfl rv1 hR) (fun a22 z20 h => ?_)
      obtain ⟨rfl, r21⟩ := h
      exact rf_ok (by exact ⟨rfl, r21⟩)
    refine rf_eq rfl (e_n 4) rv2 (show inR 4 by decide) ?_ ?_
    · refine c_I (s := 12) hR (ce_nd hR hw (And.intro h9.1 (Int.le_of_lt h9.2))) rfl rfl (fun h24 => ?_)
      exact rf_ok (by exact ⟨rfl, h24⟩)
    refine rf_eq rfl (e_n 5) rv2 (show inR 5 by decide) ?_ ?_
    · refine c_I (s := 0) hR (ce_nd hR hw (And.intro h9.1 (Int.le_of_lt h9.2))) rfl rfl (fun h26 => ?_)
      refine rf_eq rfl (e_n 17) h26 (show inR 17 by decide) ?_ ?_
      · refine c_S (p := _) hR hw (ce_nd hR hw (And.intro h9.1 (Int.le_of_lt h9.2))) (Nat.lt_trans (nd_lt (And.intro h9.1 (Int.le_of_lt h9.2))).1 (by decide)) rfl ?_
        refine c_I (s := 2) hR (ce_by hR hw (by5 (And.intro h9.1 (Int.le_of_lt h9.2)))) rfl rfl (fun h29 => ?_)
        exact rf_ok (by exact ⟨rfl, h29⟩)
      · exact rf_ok (by exact ⟨(e_n 0), (show inR 0 by decide)⟩)
    exact rf_ok (by exact ⟨(e_m 1), (show inR (-1) by decide)⟩)
noncomputable def nb_Tree_kidAt_13 (v3 : Int) (v4 : Int) (n : NS) : Option ((Int × Int) ⊕ (Int)) :=
  if 0 < v4 then
    if v3 = (-1) then
      some (.inr v3)
    else
      ix v3 120 <|
      ck (v4 + (-1)) <|
      some (.inl ((n 7 v3 5), v4 + (-1)))
  else
    some (.inr v3)
theorem fb_Tree_kidAt_13 {w y : Prop} {g : g_S} {n : NS} {m : YS} (hw : w) {xv3 : Int32} {v3 : Int} (ev3 : xv3 = Int32.ofInt v3) (rv3 : inR v3) {xv4 : Int32} {v4 : Int} (ev4 : xv4 = Int32.ofInt v4) (rv4 : inR v4) (hR : RC w y g n m) : Rf (RS (fun a b => RI a.1 b.1 ∧ RI a.2 b.2) (fun a b => RI a b)) (b_Tree_kidAt_13 5 xv3 xv4 g) (nb_Tree_kidAt_13 v3 v4 n) := by
  subst ev3
  subst ev4
  unfold b_Tree_kidAt_13 nb_Tree_kidAt_13
  refine rf_lt (e_n 0) rfl (show inR 0 by decide) rv4 ?_ ?_
  · refine rf_eq rfl (e_m 1) rv3 (show inR (-1) by decide) ?_ ?_
    · exact rf_ok (by exact ⟨rfl, rv3⟩)
    · refine c_S hR hw (sK10 hR hw) (by decide) (show srf 10 0 0 = some 6 from rfl) ?_
      refine s_S (p := aNd (_)) (L := 120) hR hw (sA20 hR hw) (by decide) (lA20 hR hw) rfl rfl rv3 (fun z1 z2 => srf20 z1 z2) (fun h4 => ?_)
      refine c_I (s := 5) hR (ce_nd hR hw (And.intro h4.1 (Int.le_of_lt h4.2))) rfl rfl (fun h6 => ?_)
      refine rf_ck (fun h7 => ?_)
      exact rf_ok (by exact ⟨⟨rfl, h6⟩, ⟨(e_add rfl (e_m 1)), h7⟩⟩)
  · exact rf_ok (by exact ⟨rfl, rv3⟩)
noncomputable def NL_Tree_kidAt_13 (v3 : Int) (v4 : Int) (n : NS) : Option (Int) :=
  it (fun s : Int × Int => nb_Tree_kidAt_13 s.1 s.2 n) (v3, v4)
theorem fL_Tree_kidAt_13 {w y : Prop} {g : g_S} {n : NS} {m : YS} (hw : w) {xv3 : Int32} {v3 : Int} (ev3 : xv3 = Int32.ofInt v3) (rv3 : inR v3) {xv4 : Int32} {v4 : Int} (ev4 : xv4 = Int32.ofInt v4) (rv4 : inR v4) (hR : RC w y g n m) : Rf (fun a b => RI a b) (L_Tree_kidAt_13 5 xv3 xv4 g) (NL_Tree_kidAt_13 v3 v4 n) := by
  subst ev3
  subst ev4
  unfold L_Tree_kidAt_13 NL_Tree_kidAt_13
  refine rf_it (I := (fun a b => RI a.1 b.1 ∧ RI a.2 b.2)) (fun s t h => ?_) ⟨⟨rfl, rv3⟩, ⟨rfl, rv4⟩⟩
  exact fb_Tree_kidAt_13 hw h.1.1 h.1.2 h.2.1 h.2.2 hR
theorem NL_Tree_kidAt_13_eq (v3 : Int) (v4 : Int) (n : NS) : NL_Tree_kidAt_13 v3 v4 n = itc (nb_Tree_kidAt_13 v3 v4 n) (fun s => NL_Tree_kidAt_13 s.1 s.2 n) := it_eq2 (fun s : Int × Int => nb_Tree_kidAt_13 s.1 s.2 n) (v3, v4)
noncomputable def N_Tree_kidAt (v1 : Int) (v2 : Int) (n : NS) : Option (Int) :=
  ix v1 120 <|
  (NL_Tree_kidAt_13 (n 7 v1 3) v2 n).bind <| fun z5 =>
  some z5
theorem f_Tree_kidAt {w y : Prop} {g : g_S} {n : NS} {m : YS} (hw : w) {xv1 : Int32} {v1 : Int} (ev1 : xv1 = Int32.ofInt v1) (rv1 : inR v1) {xv2 : Int32} {v2 : Int} (ev2 : xv2 = Int32.ofInt v2) (rv2 : inR v2) (hR : RC w y g n m) : Rf (fun a b => RI a b) (M_Tree_kidAt 5 xv1 xv2 g) (N_Tree_kidAt v1 v2 n) := by
  subst ev1
  subst ev2
  unfold M_Tree_kidAt N_Tree_kidAt
  refine c_S hR hw (sK10 hR hw) (by decide) (show srf 10 0 0 = some 6 from rfl) ?_
  refine s_S (p := aNd (_)) (L := 120) hR hw (sA20 hR hw) (by decide) (lA20 hR hw) rfl rfl rv1 (fun z1 z2 => srf20 z1 z2) (fun h2 => ?_)
  refine c_I (s := 3) hR (ce_nd hR hw (And.intro h2.1 (Int.le_of_lt h2.2))) rfl rfl (fun h4 => ?_)
  refine rf_bind (fL_Tree_kidAt_13 hw rfl h4 rfl rv2 hR) (fun a6 z5 h => ?_)
  obtain ⟨rfl, r7⟩ := (show RI a6 z5 from h)
  exact rf_ok (by exact ⟨rfl, r7⟩)
noncomputable def N_H_kid (v1 : Int) (v2 : Int) (n : NS) : Option (Int) :=
  (N_H_isNode v1 n).bind fun z2 =>
  if z2 = 0 then
    some (-1)
  else
    if v2 < 0 then
      some (-1)
    else
      (N_Tree_kidAt v1 v2 n).bind fun z11 =>
      some z11
theorem f_H_kid {w y : Prop} {g : g_S} {n : NS} {m : YS} (hw : w) {xv1 : Int32} {v1 : Int} (ev1 : xv1 = Int32.ofInt v1) (rv1 : inR v1) {xv2 : Int32} {v2 : Int} (ev2 : xv2 = Int32.ofInt v2) (rv2 : inR v2) (hR : RC w y g n m) : Rf (fun a b => RI a b) (M_H_kid 0 xv1 xv2 g) (N_H_kid v1 v2 n) := by
  subst ev1
  subst ev2
  unfold M_H_kid N_H_kid
  refine v_c (sK11 hR hw).1 ?_
  refine rf_bind (f_H_isNode hw rfl rv1 hR) (fun a4 z2 h => ?_)
  obtain ⟨rfl, r3⟩ := h
  refine rf_eq rfl (e_n 0) (inZ.r r3) (show inR 0 by decide) ?_ ?_
  · exact rf_ok (by exact ⟨(e_m 1), (show inR (-1) by decide)⟩)
  · refine rf_lt rfl (e_n 0) rv2 (show inR 0 by decide) ?_ ?_
    · exact rf_ok (by exact ⟨(e_m 1), (show inR (-1) by decide)⟩)
    · refine c_S hR hw (sK11 hR hw) (by decide) (show srf 11 0 2 = some 5 from rfl) ?_
      refine v_c (sK10 hR hw).1 ?_
      refine rf_bind (f_Tree_kidAt hw rfl rv1 rfl rv2 hR) (fun a13 z11 h => ?_)
      obtain ⟨rfl, r12⟩ := h
      exact rf_ok (by exact ⟨rfl, r12⟩)
noncomputable def N_H_name (v1 : Int) (n : NS) : Option (Int × NS) :=
  (N_H_isNode v1 n).bind fun z2 =>
  if z2 = 0 then
    some ((-1), n)
  else
    ix v1 120 <|
    if (n 7 v1 0) = 17 then
      (N_H_showBytes (5 * v1) n).bind <| u2 fun z15 n18 =>
      some (z15, n18)
    else
      (N_Bytes_clear 606 n).bind fun n24 =>
      (N_Bytes_addPacked 606 (n24 7 v1 1) n24).bind fun n30 =>
      some ((n30 4 606 2), n30)
theorem f_H_name {w y : Prop} {g : g_S} {n : NS} {m : YS} (hw : w) {xv1 : Int32} {v1 : Int} (ev1 : xv1 = Int32.ofInt v1) (rv1 : inR v1) (hR : RC w y g n m) : Rf (fun a b => RI a.1 b.1 ∧ RC w y a.2 b.2 m) (M_H_name 0 xv1 g) (N_H_name v1 n) := by
  subst ev1
  unfold M_H_name N_H_name
  refine v_c (sK11 hR hw).1 ?_
  refine rf_bind (f_H_isNode hw rfl rv1 hR) (fun a4 z2 h => ?_)
  obtain ⟨rfl, r3⟩ := h
  refine rf_eq rfl (e_n 0) (inZ.r r3) (show inR 0 by decide) ?_ ?_
  · exact rf_ok (by exact ⟨⟨(e_m 1), (show inR (-1) by decide)⟩, hR⟩)
  · refine c_S hR hw (sK11 hR hw) (by decide) (show srf 11 0 2 = some 5 from rfl) ?_
    refine c_S hR hw (sK10 hR hw) (by decide) (show srf 10 0 0 = some 6 from rfl) ?_
    refine s_S (p := aNd (_)) (L := 120) hR hw (sA20 hR hw) (by decide) (lA20 hR hw) rfl rfl rv1 (fun z1 z2 => srf20 z1 z2) (fun h9 => ?_)
    refine c_I (s := 0) hR (ce_nd hR hw (And.intro h9.1 (Int.le_of_lt h9.2))) rfl rfl (fun h11 => ?_)
    refine rf_eq rfl (e_n 17) h11 (show inR 17 by decide) ?_ ?_
    · refine c_S (p := _) hR hw (ce_nd hR hw (And.intro h9.1 (Int.le_of_lt h9.2))) (Nat.lt_trans (nd_lt (And.intro h9.1 (Int.le_of_lt h9.2))).1 (by decide)) rfl ?_
      refine v_c2 (sK11 hR hw).1 ?_
      refine rf_c2 (f_H_showBytes hw rfl (by5 (And.intro h9.1 (Int.le_of_lt h9.2))) hR) (fun a17 g20 b h => ?_)
      obtain ⟨z15, n18⟩ := b
      refine rf_v2 ?_
      obtain ⟨rfl, r16⟩ := (show RI a17 z15 from h.1)
      have hR19 : RC w y g20 n18 m := h.2
      exact rf_ok (by exact ⟨⟨rfl, r16⟩, hR19⟩)
    · refine c_S hR hw (sK11 hR hw) (by decide) (show srf 11 0 1 = some 3 from rfl) ?_
      refine v_c (bS606 ▸ (ce_by hR hw (by decide))).1 ?_
      refine rf_bind (f_Bytes_clear hw bS606.symm (by decide) hR) (fun g26 n24 hR25 => ?_)
      refine c_S hR25 hw (sK11 hR25 hw) (by decide) (show srf 11 0 1 = some 3 from rfl) ?_
      refine c_L (s := 1) hR25 (ce_nd hR25 hw (And.intro h9.1 (Int.le_of_lt h9.2))) rfl rfl (fun h28 => ?_)
      refine v_c (bS606 ▸ (ce_by hR25 hw (by decide))).1 ?_
      refine rf_bind (f_Bytes_addPacked hw bS606.symm (by decide) rfl h28 hR25) (fun g32 n30 hR31 => ?_)
      refine c_S hR31 hw (sK11 hR31 hw) (by decide) (show srf 11 0 1 = some 3 from rfl) ?_
      refine c_I (s := 2) hR31 (bS606 ▸ (ce_by hR31 hw (by decide))) rfl rfl (fun h34 => ?_)
      exact rf_ok (by exact ⟨⟨rfl, h34⟩, hR31⟩)
noncomputable def N_H_isElement (v1 : Int) (n : NS) : Option (Int) :=
  (N_H_isNode v1 n).bind fun z2 =>
  if z2 = 0 then
    some 0
  else
    ix v1 120 <|
    if (n 7 v1 0) = 17 then
      some 0
    else
      some 1
theorem f_H_isElement {w y : Prop} {g : g_S} {n : NS} {m : YS} (hw : w) {xv1 : Int32} {v1 : Int} (ev1 : xv1 = Int32.ofInt v1) (rv1 : inR v1) (hR : RC w y g n m) : Rf (fun a b => RZ a b) (M_H_isElement 0 xv1 g) (N_H_isElement v1 n) := by
  subst ev1
  unfold M_H_isElement N_H_isElement
  refine v_c (sK11 hR hw).1 ?_
  refine rf_bind (f_H_isNode hw rfl rv1 hR) (fun a4 z2 h => ?_)
  obtain ⟨rfl, r3⟩ := h
  refine rf_eq rfl (e_n 0) (inZ.r r3) (show inR 0 by decide) ?_ ?_
  · exact rf_ok (by exact ⟨(e_n 0), (.inl rfl)⟩)
  · refine c_S hR hw (sK11 hR hw) (by decide) (show srf 11 0 2 = some 5 from rfl) ?_
    refine c_S hR hw (sK10 hR hw) (by decide) (show srf 10 0 0 = some 6 from rfl) ?_
    refine s_S (p := aNd (_)) (L := 120) hR hw (sA20 hR hw) (by decide) (lA20 hR hw) rfl rfl rv1 (fun z1 z2 => srf20 z1 z2) (fun h9 => ?_)
    refine c_I (s := 0) hR (ce_nd hR hw (And.intro h9.1 (Int.le_of_lt h9.2))) rfl rfl (fun h11 => ?_)
    refine rf_eq rfl (e_n 17) h11 (show inR 17 by decide) ?_ ?_
    · exact rf_ok (by exact ⟨(e_n 0), (.inl rfl)⟩)
    · exact rf_ok (by exact ⟨(e_n 1), (.inr rfl)⟩)
noncomputable def N_H_showAttribute (v1 : Int) (v2 : Int) (n : NS) : Option (Int × NS) :=
  (N_H_isElement v1 n).bind fun z2 =>
  if z2 = 0 then
    some ((-1), n)
  else
    ix v1 120 <|
    (N_Node_find v1 v2 n).bind fun z12 =>
    if z12 < 0 then
      some ((-1), n)
    else
      (N_H_showBytes z12 n).bind <| u2 fun z18 n21 =>
      some (z18, n21)
theorem f_H_showAttribute {w y : Prop} {g : g_S} {n : NS} {m : YS} (hw : w) {xv1 : Int32} {v1 : Int} (ev1 : xv1 = Int32.ofInt v1) (rv1 : inR v1) {xv2 : Int64} {v2 : Int} (ev2 : xv2 = Int64.ofInt v2) (rv2 : inL v2) (hR : RC w y g n m) : Rf (fun a b => RI a.1 b.1 ∧ RC w y a.2 b.2 m) (M_H_showAttribute 0 xv1 xv2 g) (N_H_showAttribute v1 v2 n) := by
  subst ev1
  subst ev2
  unfold M_H_showAttribute N_H_showAttribute
  refine v_c (sK11 hR hw).1 ?_
  refine rf_bind (f_H_isElement hw rfl rv1 hR) (fun a4 z2 h => ?_)
  obtain ⟨rfl, r3⟩ := h
  refine rf_eq rfl (e_n 0) (inZ.r r3) (show inR 0 by decide) ?_ ?_
  · exact rf_ok (by exact ⟨⟨(e_m 1), (show inR (-1) by decide)⟩, hR⟩)
  · refine c_S hR hw (sK11 hR hw) (by decide) (show srf 11 0 2 = some 5 from rfl) ?_
    refine c_S hR hw (sK10 hR hw) (by decide) (show srf 10 0 0 = some 6 from rfl) ?_
    refine s_S (p := aNd (_)) (L := 120) hR hw (sA20 hR hw) (by decide) (lA20 hR hw) rfl rfl rv1 (fun z1 z2 => srf20 z1 z2) (fun h9 => ?_)
    refine v_c (ce_nd hR hw (And.intro h9.1 (Int.le_of_lt h9.2))).1 ?_
    refine rf_bind (f_Node_find hw rfl (And.intro h9.1 (Int.le_of_lt h9.2)) rfl rv2 hR) (fun a14 z12 h => ?_)
    obtain ⟨rfl, r13⟩ := h
    refine rf_oy (fun h15 => ?_) (fun h15 => ?_)
    · refine v_c2 (sK11 hR hw).1 ?_
      refine rf_c2 (f_H_showBytes hw rfl (And.intro h15 r13) hR) (fun a20 g23 b h => ?_)
      obtain ⟨z18, n21⟩ := b
      refine rf_v2 ?_
      obtain ⟨rfl, r19⟩ := (show RI a20 z18 from h.1)
      have hR22 : RC w y g23 n21 m := h.2
      exact rf_ok (by exact ⟨⟨rfl, r19⟩, hR22⟩)
    · exact rf_ok (by exact ⟨⟨(e_m 1), (show inR (-1) by decide)⟩, hR⟩)
noncomputable def nk_H_attribute_70 (v2 : Int) (n : NS) : Option (Int × NS) :=
  (N_Bytes_clear 605 n).bind fun n3 =>
  some (v2, n3)
theorem fk_H_attribute_70 {w y : Prop} {g : g_S} {n : NS} {m : YS} (hw : w) {xv2 : Int32} {v2 : Int} (ev2 : xv2 = Int32.ofInt v2) (rv2 : inR v2) (hR : RC w y g n m) : Rf (fun a b => RI a.1 b.1 ∧ RC w y a.2 b.2 m) (k_H_attribute_70 0 xv2 g) (nk_H_attribute_70 v2 n) := by
  subst ev2
  unfold k_H_attribute_70 nk_H_attribute_70
  refine c_S hR hw (sK11 hR hw) (by decide) (show srf 11 0 0 = some 1 from rfl) ?_
  refine v_c (bS605 ▸ (ce_by hR hw (by decide))).1 ?_
  refine rf_bind (f_Bytes_clear hw bS605.symm (by decide) hR) (fun g5 n3 hR4 => ?_)
  exact rf_ok (by exact ⟨⟨rfl, rv2⟩, hR4⟩)
noncomputable def nk_H_attribute_43 (v3 : Int) (n : NS) : Option (Int × NS) :=
  ck ((-1000) - v3) <|
  nk_H_attribute_70 ((-1000) - v3) n
theorem fk_H_attribute_43 {w y : Prop} {g : g_S} {n : NS} {m : YS} (hw : w) {xv3 : Int32} {v3 : Int} (ev3 : xv3 = Int32.ofInt v3) (rv3 : inR v3) (hR : RC w y g n m) : Rf (fun a b => RI a.1 b.1 ∧ RC w y a.2 b.2 m) (k_H_attribute_43 0 xv3 g) (nk_H_attribute_43 v3 n) := by
  subst ev3
  unfold k_H_attribute_43 nk_H_attribute_43
  refine rf_ck (fun h1 => ?_)
  exact fk_H_attribute_70 hw (e_sub (e_m 1000) rfl) h1 hR
noncomputable def N_H_attribute (v1 : Int) (n : NS) : Option (Int × NS) :=
  (N_H_wrongByte n).bind fun z2 =>
  if z2 = 0 then
    nn (n 4 605 1) <|
    (N_Bytes_nameEnd (n 4 605 1) 0 (n 4 605 2) n).bind fun z11 =>
    if z11 = 0 then
      nk_H_attribute_43 z11 n
    else
      if z11 < (n 4 605 2) then
        nk_H_attribute_43 z11 n
      else
        nn (n 4 605 1) <|
        (N_Bytes_pack (n 4 605 1) 0 z11 n).bind fun z21 =>
        (N_H_showAttribute v1 z21 n).bind <| u2 fun z25 n28 =>
        nk_H_attribute_70 z25 n28
  else
    nk_H_attribute_70 z2 n
theorem f_H_attribute {w y : Prop} {g : g_S} {n : NS} {m : YS} (hw : w) {xv1 : Int32} {v1 : Int} (ev1 : xv1 = Int32.ofInt v1) (rv1 : inR v1) (hR : RC w y g n m) : Rf (fun a b => RI a.1 b.1 ∧ RC w y a.2 b.2 m) (M_H_attribute 0 xv1 g) (N_H_attribute v1 n) := by
  subst ev1
  unfold M_H_attribute N_H_attribute
  refine v_c (sK11 hR hw).1 ?_
  refine rf_bind (f_H_wrongByte hw hR) (fun a4 z2 h => ?_)
  obtain ⟨rfl, r3⟩ := h
  refine rf_eq rfl (e_n 0) r3 (show inR 0 by decide) ?_ ?_
  · refine c_S hR hw (sK11 hR hw) (by decide) (show srf 11 0 0 = some 1 from rfl) ?_
    refine c_D (s := 1) hR (bS605 ▸ (ce_by hR hw (by decide))) rfl rfl rfl (fun h7 => ?_)
    refine c_S hR hw (sK11 hR hw) (by decide) (show srf 11 0 0 = some 1 from rfl) ?_
    refine c_I (s := 2) hR (bS605 ▸ (ce_by hR hw (by decide))) rfl rfl (fun h9 => ?_)
    refine rf_bind (f_Bytes_nameEnd rfl h7 (e_n 0) (show inR 0 by decide) rfl h9 hR) (fun a13 z11 h => ?_)
    obtain ⟨rfl, r12⟩ := h
    refine rf_eq rfl (e_n 0) r12 (show inR 0 by decide) ?_ ?_
    · exact fk_H_attribute_43 hw rfl r12 hR
    · refine c_S hR hw (sK11 hR hw) (by decide) (show srf 11 0 0 = some 1 from rfl) ?_
      refine c_I (s := 2) hR (bS605 ▸ (ce_by hR hw (by decide))) rfl rfl (fun h16 => ?_)
      refine rf_lt rfl rfl r12 h16 ?_ ?_
      · exact fk_H_attribute_43 hw rfl r12 hR
      · refine c_S hR hw (sK11 hR hw) (by decide) (show srf 11 0 0 = some 1 from rfl) ?_
        refine c_D (s := 1) hR (bS605 ▸ (ce_by hR hw (by decide))) rfl rfl rfl (fun h19 => ?_)
        refine rf_bind (f_Bytes_pack rfl h19 (e_n 0) (show inR 0 by decide) rfl r12 hR) (fun a23 z21 h => ?_)
        obtain ⟨rfl, r22⟩ := h
        refine v_c2 (sK11 hR hw).1 ?_
        refine rf_c2 (f_H_showAttribute hw rfl rv1 rfl r22 hR) (fun a27 g30 b h => ?_)
        obtain ⟨z25, n28⟩ := b
        refine rf_v2 ?_
        obtain ⟨rfl, r26⟩ := (show RI a27 z25 from h.1)
        have hR29 : RC w y g30 n28 m := h.2
        exact fk_H_attribute_70 hw rfl r26 hR29
  · exact fk_H_attribute_70 hw rfl r3 hR
noncomputable def nb_Tree_printMasked_2 (v0 : Int) (v1 : Int) (v2 : Int) (n : NS) : Option ((Int × NS) ⊕ (NS)) :=
  if v2 < (n 4 v0 2) then
    nn (n 4 v0 1) <|
    dx n (n 4 v0 1) 1 v2 <|
    if (n 99 (n 4 v0 1) v2) = 34 then
      (N_Bytes_addText v1 1000035 n).bind fun n9 =>
      ck (v2 + 1) <|
      some (.inl (v2 + 1, n9))
    else if (n 99 (n 4 v0 1) v2) = 38 then
      (N_Bytes_addText v1 1000034 n).bind fun n15 =>
      ck (v2 + 1) <|
      some (.inl (v2 + 1, n15))
    else if (n 99 (n 4 v0 1) v2) = 60 then
      (N_Bytes_addText v1 1000032 n).bind fun n21 =>
      ck (v2 + 1) <|
      some (.inl (v2 + 1, n21))
    else if (n 99 (n 4 v0 1) v2) = 62 then
      (N_Bytes_addText v1 1000033 n).bind fun n27 =>
      ck (v2 + 1) <|
      some (.inl (v2 + 1, n27))
    else
      nn (n 4 v0 1) <|
      dx n (n 4 v0 1) 1 v2 <|
      (N_Bytes_add v1 (n 99 (n 4 v0 1) v2) n).bind fun n35 =>
      ck (v2 + 1) <|
      some (.inl (v2 + 1, n35))
  else
    some (.inr n)
theorem fb_Tree_printMasked_2 {w y : Prop} {g : g_S} {n : NS} {m : YS} (hw : w) {xv0 : Nat} {v0 : Int} (ev0 : xv0 = aBy v0) (rv0 : 0 ≤ v0 ∧ v0 ≤ 631) {xv1 : Nat} {v1 : Int} (ev1 : xv1 = aBy v1) (rv1 : 0 ≤ v1 ∧ v1 ≤ 631) {xv2 : Int32} {v2 : Int} (ev2 : xv2 = Int32.ofInt v2) (rv2 : inR v2) (hR : RC w y g n m) : Rf (RS (fun a b => RI a.1 b.1 ∧ RC w y a.2 b.2 m) (fun a b => RC w y a b m)) (b_Tree_printMasked_2 xv0 xv1 xv2 g) (nb_Tree_printMasked_2 v0 v1 v2 n) := by
  subst ev0
  subst ev1
  subst ev2
  unfold b_Tree_printMasked_2 nb_Tree_printMasked_2
  refine c_I (s := 2) hR (ce_by hR hw rv0) rfl rfl (fun h1 => ?_)
  refine rf_lt rfl rfl rv2 h1 ?_ ?_
  · refine c_D (s := 1) hR (ce_by hR hw rv0) rfl rfl rfl (fun h3 => ?_)
    refine d_B hR h3 rfl rv2 (fun h4 h5 => ?_)
    refine rf_eq rfl (e_n 34) (inB.r h5) (show inR 34 by decide) ?_ ?_
    · refine v_c (ce_by hR hw rv1).1 ?_
      refine rf_bind (f_Bytes_addText hw rfl rv1 hR) (fun g11 n9 hR10 => ?_)
      refine rf_ck (fun h12 => ?_)
      exact rf_ok (by exact ⟨⟨(e_add rfl (e_n 1)), h12⟩, hR10⟩)
    refine rf_eq rfl (e_n 38) (inB.r h5) (show inR 38 by decide) ?_ ?_
    · refine v_c (ce_by hR hw rv1).1 ?_
      refine rf_bind (f_Bytes_addText hw rfl rv1 hR) (fun g17 n15 hR16 => ?_)
      refine rf_ck (fun h18 => ?_)
      exact rf_ok (by exact ⟨⟨(e_add rfl (e_n 1)), h18⟩, hR16⟩)
    refine rf_eq rfl (e_n 60) (inB.r h5) (show inR 60 by decide) ?_ ?_
    · refine v_c (ce_by hR hw rv1).1 ?_
      refine rf_bind (f_Bytes_addText hw rfl rv1 hR) (fun g23 n21 hR22 => ?_)
      refine rf_ck (fun h24 => ?_)
      exact rf_ok (by exact ⟨⟨(e_add rfl (e_n 1)), h24⟩, hR22⟩)
    refine rf_eq rfl (e_n 62) (inB.r h5) (show inR 62 by decide) ?_ ?_
    · refine v_c (ce_by hR hw rv1).1 ?_
      refine rf_bind (f_Bytes_addText hw rfl rv1 hR) (fun g29 n27 hR28 => ?_)
      refine rf_ck (fun h30 => ?_)
      exact rf_ok (by exact ⟨⟨(e_add rfl (e_n 1)), h30⟩, hR28⟩)
    refine c_D (s := 1) hR (ce_by hR hw rv0) rfl rfl rfl (fun h31 => ?_)
    refine d_B hR h31 rfl rv2 (fun h32 h33 => ?_)
    refine v_c (ce_by hR hw rv1).1 ?_
    refine rf_bind (f_Bytes_add hw rfl rv1 rfl (inB.r h33) hR) (fun g37 n35 hR36 => ?_)
    refine rf_ck (fun h38 => ?_)
    exact rf_ok (by exact ⟨⟨(e_add rfl (e_n 1)), h38⟩, hR36⟩)
  · exact rf_ok (by exact hR)
noncomputable def NL_Tree_printMasked_2 (v0 : Int) (v1 : Int) (v2 : Int) (n : NS) : Option (NS) :=
  it (fun s : Int × NS => nb_Tree_printMasked_2 v0 v1 s.1 s.2) (v2, n)
theorem fL_Tree_printMasked_2 {w y : Prop} {g : g_S} {n : NS} {m : YS} (hw : w) {xv0 : Nat} {v0 : Int} (ev0 : xv0 = aBy v0) (rv0 : 0 ≤ v0 ∧ v0 ≤ 631) {xv1 : Nat} {v1 : Int} (ev1 : xv1 = aBy v1) (rv1 : 0 ≤ v1 ∧ v1 ≤ 631) {xv2 : Int32} {v2 : Int} (ev2 : xv2 = Int32.ofInt v2) (rv2 : inR v2) (hR : RC w y g n m) : Rf (fun a b => RC w y a b m) (L_Tree_printMasked_2 xv0 xv1 xv2 g) (NL_Tree_printMasked_2 v0 v1 v2 n) := by
  subst ev0
  subst ev1
  subst ev2
  unfold L_Tree_printMasked_2 NL_Tree_printMasked_2
  refine rf_it (I := (fun a b => RI a.1 b.1 ∧ RC w y a.2 b.2 m)) (fun s t h => ?_) ⟨⟨rfl, rv2⟩, hR⟩
  exact fb_Tree_printMasked_2 hw rfl rv0 rfl rv1 h.1.1 h.1.2 h.2
theorem NL_Tree_printMasked_2_eq (v0 : Int) (v1 : Int) (v2 : Int) (n : NS) : NL_Tree_printMasked_2 v0 v1 v2 n = itc (nb_Tree_printMasked_2 v0 v1 v2 n) (fun s => NL_Tree_printMasked_2 v0 v1 s.1 s.2) := it_eq2 (fun s : Int × NS => nb_Tree_printMasked_2 v0 v1 s.1 s.2) (v2, n)
noncomputable def N_Tree_printMasked (v0 : Int) (v1 : Int) (n : NS) : Option (NS) :=
  (NL_Tree_printMasked_2 v0 v1 0 n).bind <| fun n1 =>
  some n1
theorem f_Tree_printMasked {w y : Prop} {g : g_S} {n : NS} {m : YS} (hw : w) {xv0 : Nat} {v0 : Int} (ev0 : xv0 = aBy v0) (rv0 : 0 ≤ v0 ∧ v0 ≤ 631) {xv1 : Nat} {v1 : Int} (ev1 : xv1 = aBy v1) (rv1 : 0 ≤ v1 ∧ v1 ≤ 631) (hR : RC w y g n m) : Rf (fun a b => RC w y a b m) (M_Tree_printMasked xv0 xv1 g) (N_Tree_printMasked v0 v1 n) := by
  subst ev0
  subst ev1
  unfold M_Tree_printMasked N_Tree_printMasked
  refine rf_bind (fL_Tree_printMasked_2 hw rfl rv0 rfl rv1 (e_n 0) (show inR 0 by decide) hR) (fun a2 n1 h => ?_)
  have hR3 : RC w y a2 n1 m := h
  exact rf_ok (by exact hR3)
noncomputable def nb_Tree_printStart_89 (v2 : Int) (v3 : Int) (v4 : Int) (n : NS) : Option ((Int × NS) ⊕ (NS)) :=
  if v4 < (n 7 v3 12) then
    (N_Bytes_add v2 32 n).bind fun n4 =>
    ix v4 4 <|
    (N_Bytes_addPacked v2 (n4 18 v3 v4) n4).bind fun n11 =>
    (N_Bytes_addText v2 1000036 n11).bind fun n16 =>
    ix v4 4 <|
    (N_Tree_printMasked (5 * v3 + 1 + v4) v2 n16).bind fun n23 =>
    (N_Bytes_add v2 34 n23).bind fun n27 =>
    ck (v4 + 1) <|
    some (.inl (v4 + 1, n27))
  else
    some (.inr n)
theorem fb_Tree_printStart_89 {w y : Prop} {g : g_S} {n : NS} {m : YS} (hw : w) {xv2 : Nat} {v2 : Int} (ev2 : xv2 = aBy v2) (rv2 : 0 ≤ v2 ∧ v2 ≤ 631) {xv3 : Nat} {v3 : Int} (ev3 : xv3 = aNd v3) (rv3 : 0 ≤ v3 ∧ v3 ≤ 120) {xv4 : Int32} {v4 : Int} (ev4 : xv4 = Int32.ofInt v4) (rv4 : inR v4) (hR : RC w y g n m) : Rf (RS (fun a b => RI a.1 b.1 ∧ RC w y a.2 b.2 m) (fun a b => RC w y a b m)) (b_Tree_printStart_89 xv2 xv3 xv4 g) (nb_Tree_printStart_89 v2 v3 v4 n) := by
  subst ev2
  subst ev3
  subst ev4
  unfold b_Tree_printStart_89 nb_Tree_printStart_89
  refine c_I (s := 12) hR (ce_nd hR hw rv3) rfl rfl (fun h1 => ?_)
  refine rf_lt rfl rfl rv4 h1 ?_ ?_
  · refine v_c (ce_by hR hw rv2).1 ?_
    refine rf_bind (f_Bytes_add hw rfl rv2 (e_n 32) (show inR 32 by decide) hR) (fun g6 n4 hR5 => ?_)
    refine c_S (p := _) hR5 hw (ce_nd hR5 hw rv3) (Nat.lt_trans (nd_lt rv3).1 (by decide)) rfl ?_
    refine s_L (L := 4) hR5 (ce_nm hR5 hw rv3) (ln_nm hR5 hw rv3) rfl rfl rv4 (fun h8 h9 => ?_)
    refine v_c (ce_by hR5 hw rv2).1 ?_
    refine rf_bind (f_Bytes_addPacked hw rfl rv2 rfl h9 hR5) (fun g13 n11 hR12 => ?_)
    refine v_c (ce_by hR12 hw rv2).1 ?_
    refine rf_bind (f_Bytes_addText hw rfl rv2 hR12) (fun g18 n16 hR17 => ?_)
    refine c_S (p := _) hR17 hw (ce_nd hR17 hw rv3) (Nat.lt_trans (nd_lt rv3).1 (by decide)) rfl ?_
    refine s_S (p := aBy (5 * (_) + 1 + _)) (L := 4) hR17 hw (ce_vs hR17 hw rv3) (sty_nd0 rv3 4 (by decide)).2.2 (ln_vs hR17 hw rv3) rfl rfl rv4 (fun z1 z2 => srf19 z1 z2) (fun h20 => ?_)
    refine rf_bind (f_Tree_printMasked hw rfl (by19 rv3 h20) rfl rv2 hR17) (fun g25 n23 hR24 => ?_)
    refine v_c (ce_by hR24 hw rv2).1 ?_
    refine rf_bind (f_Bytes_add hw rfl rv2 (e_n 34) (show inR 34 by decide) hR24) (fun g29 n27 hR28 => ?_)
    refine rf_ck (fun h30 => ?_)
    exact rf_ok (by exact ⟨⟨(e_add rfl (e_n 1)), h30⟩, hR28⟩)
  · exact rf_ok (by exact hR)
noncomputable def NL_Tree_printStart_89 (v2 : Int) (v3 : Int) (v4 : Int) (n : NS) : Option (NS) :=
  it (fun s : Int × NS => nb_Tree_printStart_89 v2 v3 s.1 s.2) (v4, n)
theorem fL_Tree_printStart_89 {w y : Prop} {g : g_S} {n : NS} {m : YS} (hw : w) {xv2 : Nat} {v2 : Int} (ev2 : xv2 = aBy v2) (rv2 : 0 ≤ v2 ∧ v2 ≤ 631) {xv3 : Nat} {v3 : Int} (ev3 : xv3 = aNd v3) (rv3 : 0 ≤ v3 ∧ v3 ≤ 120) {xv4 : Int32} {v4 : Int} (ev4 : xv4 = Int32.ofInt v4) (rv4 : inR v4) (hR : RC w y g n m) : Rf (fun a b => RC w y a b m) (L_Tree_printStart_89 xv2 xv3 xv4 g) (NL_Tree_printStart_89 v2 v3 v4 n) := by
  subst ev2
  subst ev3
  subst ev4
  unfold L_Tree_printStart_89 NL_Tree_printStart_89
  refine rf_it (I := (fun a b => RI a.1 b.1 ∧ RC w y a.2 b.2 m)) (fun s t h => ?_) ⟨⟨rfl, rv4⟩, hR⟩
  exact fb_Tree_printStart_89 hw rfl rv2 rfl rv3 h.1.1 h.1.2 h.2
theorem NL_Tree_printStart_89_eq (v2 : Int) (v3 : Int) (v4 : Int) (n : NS) : NL_Tree_printStart_89 v2 v3 v4 n = itc (nb_Tree_printStart_89 v2 v3 v4 n) (fun s => NL_Tree_printStart_89 v2 v3 s.1 s.2) := it_eq2 (fun s : Int × NS => nb_Tree_printStart_89 v2 v3 s.1 s.2) (v4, n)
noncomputable def nk_Tree_printStart_63 (v2 : Int) (v3 : Int) (n : NS) : Option (NS) :=
  (N_Tree_printMasked (5 * v3) v2 n).bind fun n3 =>
  some n3
theorem fk_Tree_printStart_63 {w y : Prop} {g : g_S} {n : NS} {m : YS} (hw : w) {xv2 : Nat} {v2 : Int} (ev2 : xv2 = aBy v2) (rv2 : 0 ≤ v2 ∧ v2 ≤ 631) {xv3 : Nat} {v3 : Int} (ev3 : xv3 = aNd v3) (rv3 : 0 ≤ v3 ∧ v3 ≤ 120) (hR : RC w y g n m) : Rf (fun a b => RC w y a b m) (k_Tree_printStart_63 xv2 xv3 g) (nk_Tree_printStart_63 v2 v3 n) := by
  subst ev2
  subst ev3
  unfold k_Tree_printStart_63 nk_Tree_printStart_63
  refine c_S (p := _) hR hw (ce_nd hR hw rv3) (Nat.lt_trans (nd_lt rv3).1 (by decide)) rfl ?_
  refine rf_bind (f_Tree_printMasked hw rfl (by5 rv3) rfl rv2 hR) (fun g5 n3 hR4 => ?_)
  exact rf_ok (by exact hR4)
noncomputable def N_Tree_printStart (v1 : Int) (v2 : Int) (n : NS) : Option (NS) :=
  ix v1 120 <|
  if (n 7 v1 0) = 17 then
    if (n 7 v1 2) = (-1) then
      nk_Tree_printStart_63 v2 v1 n
    else
      ix (n 7 v1 2) 120 <|
      if (n 7 (n 7 v1 2) 0) = 15 then
        nn (n 4 (5 * v1) 1) <|
        (N_Bytes_addAll v2 (n 4 (5 * v1) 1) 0 (n 4 (5 * v1) 2) n).bind fun n19 =>
        some n19
      else
        nk_Tree_printStart_63 v2 v1 n
  else
    (N_Bytes_add v2 60 n).bind fun n24 =>
    (N_Bytes_addPacked v2 (n24 7 v1 1) n24).bind fun n29 =>
    (NL_Tree_printStart_89 v2 v1 0 n29).bind <| fun n32 =>
    (N_Bytes_add v2 62 n32).bind fun n36 =>
    some n36
theorem f_Tree_printStart {w y : Prop} {g : g_S} {n : NS} {m : YS} (hw : w) {xv1 : Int32} {v1 : Int} (ev1 : xv1 = Int32.ofInt v1) (rv1 : inR v1) {xv2 : Nat} {v2 : Int} (ev2 : xv2 = aBy v2) (rv2 : 0 ≤ v2 ∧ v2 ≤ 631) (hR : RC w y g n m) : Rf (fun a b => RC w y a b m) (M_Tree_printStart 5 xv1 xv2 g) (N_Tree_printStart v1 v2 n) := by
  subst ev1
  subst ev2
  unfold M_Tree_printStart N_Tree_printStart
  refine c_S hR hw (sK10 hR hw) (by decide) (show srf 10 0 0 = some 6 from rfl) ?_
  refine s_S (p := aNd (_)) (L := 120) hR hw (sA20 hR hw) (by decide) (lA20 hR hw) rfl rfl rv1 (fun z1 z2 => srf20 z1 z2) (fun h2 => ?_)
  refine c_I (s := 0) hR (ce_nd hR hw (And.intro h2.1 (Int.le_of_lt h2.2))) rfl rfl (fun h4 => ?_)
  refine rf_eq rfl (e_n 17) h4 (show inR 17 by decide) ?_ ?_
  · refine c_I (s := 2) hR (ce_nd hR hw (And.intro h2.1 (Int.le_of_lt h2.2))) rfl rfl (fun h6 => ?_)
    refine rf_eq rfl (e_m 1) h6 (show inR (-1) by decide) ?_ ?_
    · exact fk_Tree_printStart_63 hw rfl rv2 rfl (And.intro h2.1 (Int.le_of_lt h2.2)) hR
    · refine c_S hR hw (sK10 hR hw) (by decide) (show srf 10 0 0 = some 6 from rfl) ?_
      refine c_I (s := 2) hR (ce_nd hR hw (And.intro h2.1 (Int.le_of_lt h2.2))) rfl rfl (fun h9 => ?_)
      refine s_S (p := aNd (_)) (L := 120) hR hw (sA20 hR hw) (by decide) (lA20 hR hw) rfl rfl h9 (fun z1 z2 => srf20 z1 z2) (fun h10 => ?_)
      refine c_I (s := 0) hR (ce_nd hR hw (And.intro h10.1 (Int.le_of_lt h10.2))) rfl rfl (fun h12 => ?_)
      refine rf_eq rfl (e_n 15) h12 (show inR 15 by decide) ?_ ?_
      · refine c_S (p := _) hR hw (ce_nd hR hw (And.intro h2.1 (Int.le_of_lt h2.2))) (Nat.lt_trans (nd_lt (And.intro h2.1 (Int.le_of_lt h2.2))).1 (by decide)) rfl ?_
        refine c_D (s := 1) hR (ce_by hR hw (by5 (And.intro h2.1 (Int.le_of_lt h2.2)))) rfl rfl rfl (fun h15 => ?_)
        refine c_S (p := _) hR hw (ce_nd hR hw (And.intro h2.1 (Int.le_of_lt h2.2))) (Nat.lt_trans (nd_lt (And.intro h2.1 (Int.le_of_lt h2.2))).1 (by decide)) rfl ?_
        refine c_I (s := 2) hR (ce_by hR hw (by5 (And.intro h2.1 (Int.le_of_lt h2.2)))) rfl rfl (fun h17 => ?_)
        refine v_c (ce_by hR hw rv2).1 ?_
        refine rf_bind (f_Bytes_addAll hw rfl rv2 rfl h15 (e_n 0) (show inR 0 by decide) rfl h17 hR) (fun g21 n19 hR20 => ?_)
        exact rf_ok (by exact hR20)
      · exact fk_Tree_printStart_63 hw rfl rv2 rfl (And.intro h2.1 (Int.le_of_lt h2.2)) hR
  · refine v_c (ce_by hR hw rv2).1 ?_
    refine rf_bind (f_Bytes_add hw rfl rv2 (e_n 60) (show inR 60 by decide) hR) (fun g26 n24 hR25 => ?_)
    refine c_L (s := 1) hR25 (ce_nd hR25 hw (And.intro h2.1 (Int.le_of_lt h2.2))) rfl rfl (fun h27 => ?_)
    refine v_c (ce_by hR25 hw rv2).1 ?_
    refine rf_bind (f_Bytes_addPacked hw rfl rv2 rfl h27 hR25) (fun g31 n29 hR30 => ?_)
    refine rf_bind (fL_Tree_printStart_89 hw rfl rv2 rfl (And.intro h2.1 (Int.le_of_lt h2.2)) (e_n 0) (show inR 0 by decide) hR30) (fun a33 n32 h => ?_)
    have hR34 : RC w y a33 n32 m := h
    refine v_c (ce_by hR34 hw rv2).1 ?_
    refine rf_bind (f_Bytes_add hw rfl rv2 (e_n 62) (show inR 62 by decide) hR34) (fun g38 n36 hR37 => ?_)
    exact rf_ok (by exact hR37)
noncomputable def N_Tree_printEnd (v0 : Int) (v1 : Int) (n : NS) : Option (NS) :=
  if (n 7 v0 0) = 17 then
    some n
  else
    (N_Node_isEmptyTag v0 n).bind fun z5 =>
    if z5 = 0 then
      (N_Bytes_addText v1 1000037 n).bind fun n11 =>
      (N_Bytes_addPacked v1 (n11 7 v0 1) n11).bind fun n16 =>
      (N_Bytes_add v1 62 n16).bind fun n20 =>
      some n20
    else
      some n
theorem f_Tree_printEnd {w y : Prop} {g : g_S} {n : NS} {m : YS} (hw : w) {xv0 : Nat} {v0 : Int} (ev0 : xv0 = aNd v0) (rv0 : 0 ≤ v0 ∧ v0 ≤ 120) {xv1 : Nat} {v1 : Int} (ev1 : xv1 = aBy v1) (rv1 : 0 ≤ v1 ∧ v1 ≤ 631) (hR : RC w y g n m) : Rf (fun a b => RC w y a b m) (M_Tree_printEnd xv0 xv1 g) (N_Tree_printEnd v0 v1 n) := by
  subst ev0
  subst ev1
  unfold M_Tree_printEnd N_Tree_printEnd
  refine c_I (s := 0) hR (ce_nd hR hw rv0) rfl rfl (fun h1 => ?_)
  refine rf_eq rfl (e_n 17) h1 (show inR 17 by decide) ?_ ?_
  · exact rf_ok (by exact hR)
  · refine v_c (ce_nd hR hw rv0).1 ?_
    refine rf_bind (f_Node_isEmptyTag hw rfl rv0 hR) (fun a7 z5 h => ?_)
    obtain ⟨rfl, r6⟩ := h
    refine rf_eq rfl (e_n 0) (inZ.r r6) (show inR 0 by decide) ?_ ?_
    · refine v_c (ce_by hR hw rv1).1 ?_
      refine rf_bind (f_Bytes_addText hw rfl rv1 hR) (fun g13 n11 hR12 => ?_)
      refine c_L (s := 1) hR12 (ce_nd hR12 hw rv0) rfl rfl (fun h14 => ?_)
      refine v_c (ce_by hR12 hw rv1).1 ?_
      refine rf_bind (f_Bytes_addPacked hw rfl rv1 rfl h14 hR12) (fun g18 n16 hR17 => ?_)
      refine v_c (ce_by hR17 hw rv1).1 ?_
      refine rf_bind (f_Bytes_add hw rfl rv1 (e_n 62) (show inR 62 by decide) hR17) (fun g22 n20 hR21 => ?_)
      exact rf_ok (by exact hR21)
    · exact rf_ok (by exact hR)
noncomputable def nb_Tree_print_52 (v1 : Int) (v2 : Int) (v3 : Int) (v4 : Int) (v5 : Int) (n : NS) : Option ((Int × NS) ⊕ (NS)) :=
  if v5 = (-1) then
    some (.inr n)
  else
    ix v5 120 <|
    ck (v4 + 1) <|
    if (n 7 v5 9) = (v4 + 1) then
      ix v5 120 <|
      (N_Tree_printEnd v5 v2 n).bind fun n12 =>
      if v5 = v1 then
        some (.inl ((-1), n12))
      else
        ix v5 120 <|
        some (.inl ((n12 7 v5 2), n12))
    else
      some (.inr n)
theorem fb_Tree_print_52 {w y : Prop} {g : g_S} {n : NS} {m : YS} (hw : w) {xv1 : Int32} {v1 : Int} (ev1 : xv1 = Int32.ofInt v1) (rv1 : inR v1) {xv2 : Nat} {v2 : Int} (ev2 : xv2 = aBy v2) (rv2 : 0 ≤ v2 ∧ v2 ≤ 631) {xv3 : Int32} {v3 : Int} (ev3 : xv3 = Int32.ofInt v3) (rv3 : inR v3) {xv4 : Int32} {v4 : Int} (ev4 : xv4 = Int32.ofInt v4) (rv4 : inR v4) {xv5 : Int32} {v5 : Int} (ev5 : xv5 = Int32.ofInt v5) (rv5 : inR v5) (hR : RC w y g n m) : Rf (RS (fun a b => RI a.1 b.1 ∧ RC w y a.2 b.2 m) (fun a b => RC w y a b m)) (b_Tree_print_52 5 xv1 xv2 xv3 xv4 xv5 g) (nb_Tree_print_52 v1 v2 v3 v4 v5 n) := by
  subst ev1
  subst ev2
  subst ev3
  subst ev4
  subst ev5
  unfold b_Tree_print_52 nb_Tree_print_52
  refine rf_eq rfl (e_m 1) rv5 (show inR (-1) by decide) ?_ ?_
  · exact rf_ok (by exact hR)
  · refine c_S hR hw (sK10 hR hw) (by decide) (show srf 10 0 0 = some 6 from rfl) ?_
    refine s_S (p := aNd (_)) (L := 120) hR hw (sA20 hR hw) (by decide) (lA20 hR hw) rfl rfl rv5 (fun z1 z2 => srf20 z1 z2) (fun h3 => ?_)
    refine c_I (s := 9) hR (ce_nd hR hw (And.intro h3.1 (Int.le_of_lt h3.2))) rfl rfl (fun h5 => ?_)
    refine rf_ck (fun h6 => ?_)
    refine rf_eq rfl (e_add rfl (e_n 1)) h5 h6 ?_ ?_
    · refine c_S hR hw (sK10 hR hw) (by decide) (show srf 10 0 0 = some 6 from rfl) ?_
      refine s_S (p := aNd (_)) (L := 120) hR hw (sA20 hR hw) (by decide) (lA20 hR hw) rfl rfl rv5 (fun z1 z2 => srf20 z1 z2) (fun h9 => ?_)
      refine rf_bind (f_Tree_printEnd hw rfl (And.intro h9.1 (Int.le_of_lt h9.2)) rfl rv2 hR) (fun g14 n12 hR13 => ?_)
      refine rf_eq rfl rfl rv5 rv1 ?_ ?_
      · exact rf_ok (by exact ⟨⟨(e_m 1), (show inR (-1) by decide)⟩, hR13⟩)
      · refine c_S hR13 hw (sK10 hR13 hw) (by decide) (show srf 10 0 0 = some 6 from rfl) ?_
        refine s_S (p := aNd (_)) (L := 120) hR13 hw (sA20 hR13 hw) (by decide) (lA20 hR13 hw) rfl rfl rv5 (fun z1 z2 => srf20 z1 z2) (fun h17 => ?_)
        refine c_I (s := 2) hR13 (ce_nd hR13 hw (And.intro h17.1 (Int.le_of_lt h17.2))) rfl rfl (fun h19 => ?_)
        exact rf_ok (by exact ⟨⟨rfl, h19⟩, hR13⟩)
    · exact rf_ok (by exact hR)
noncomputable def NL_Tree_print_52 (v1 : Int) (v2 : Int) (v3 : Int) (v4 : Int) (v5 : Int) (n : NS) : Option (NS) :=
  it (fun s : Int × NS => nb_Tree_print_52 v1 v2 v3 v4 s.1 s.2) (v5, n)
theorem fL_Tree_print_52 {w y : Prop} {g : g_S} {n : NS} {m : YS} (hw : w) {xv1 : Int32} {v1 : Int} (ev1 : xv1 = Int32.ofInt v1) (rv1 : inR v1) {xv2 : Nat} {v2 : Int} (ev2 : xv2 = aBy v2) (rv2 : 0 ≤ v2 ∧ v2 ≤ 631) {xv3 : Int32} {v3 : Int} (ev3 : xv3 = Int32.ofInt v3) (rv3 : inR v3) {xv4 : Int32} {v4 : Int} (ev4 : xv4 = Int32.ofInt v4) (rv4 : inR v4) {xv5 : Int32} {v5 : Int} (ev5 : xv5 = Int32.ofInt v5) (rv5 : inR v5) (hR : RC w y g n m) : Rf (fun a b => RC w y a b m) (L_Tree_print_52 5 xv1 xv2 xv3 xv4 xv5 g) (NL_Tree_print_52 v1 v2 v3 v4 v5 n) := by
  subst ev1
  subst ev2
  subst ev3
  subst ev4
  subst ev5
  unfold L_Tree_print_52 NL_Tree_print_52
  refine rf_it (I := (fun a b => RI a.1 b.1 ∧ RC w y a.2 b.2 m)) (fun s t h => ?_) ⟨⟨rfl, rv5⟩, hR⟩
  exact fb_Tree_print_52 hw rfl rv1 rfl rv2 rfl rv3 rfl rv4 h.1.1 h.1.2 h.2
theorem NL_Tree_print_52_eq (v1 : Int) (v2 : Int) (v3 : Int) (v4 : Int) (v5 : Int) (n : NS) : NL_Tree_print_52 v1 v2 v3 v4 v5 n = itc (nb_Tree_print_52 v1 v2 v3 v4 v5 n) (fun s => NL_Tree_print_52 v1 v2 v3 v4 s.1 s.2) := it_eq2 (fun s : Int × NS => nb_Tree_print_52 v1 v2 v3 v4 s.1 s.2) (v5, n)
noncomputable def nb_Tree_print_25 (v1 : Int) (v2 : Int) (v3 : Int) (v4 : Int) (n : NS) : Option ((Int × NS) ⊕ (NS)) :=
  if v4 < v3 then
    ix v4 120 <|
    (N_Tree_printStart (n 22 0 v4) v2 n).bind fun n6 =>
    ix v4 120 <|
    (NL_Tree_print_52 v1 v2 v3 v4 (n6 22 0 v4) n6).bind <| fun n12 =>
    ck (v4 + 1) <|
    some (.inl (v4 + 1, n12))
  else
    some (.inr n)
theorem fb_Tree_print_25 {w y : Prop} {g : g_S} {n : NS} {m : YS} (hw : w) {xv1 : Int32} {v1 : Int} (ev1 : xv1 = Int32.ofInt v1) (rv1 : inR v1) {xv2 : Nat} {v2 : Int} (ev2 : xv2 = aBy v2) (rv2 : 0 ≤ v2 ∧ v2 ≤ 631) {xv3 : Int32} {v3 : Int} (ev3 : xv3 = Int32.ofInt v3) (rv3 : inR v3) {xv4 : Int32} {v4 : Int} (ev4 : xv4 = Int32.ofInt v4) (rv4 : inR v4) (hR : RC w y g n m) : Rf (RS (fun a b => RI a.1 b.1 ∧ RC w y a.2 b.2 m) (fun a b => RC w y a b m)) (b_Tree_print_25 5 xv1 xv2 xv3 xv4 g) (nb_Tree_print_25 v1 v2 v3 v4 n) := by
  subst ev1
  subst ev2
  subst ev3
  subst ev4
  unfold b_Tree_print_25 nb_Tree_print_25
  refine rf_lt rfl rfl rv4 rv3 ?_ ?_
  · refine c_S hR hw (sK10 hR hw) (by decide) (show srf 10 0 2 = some 8 from rfl) ?_
    refine s_I (L := 120) hR (sA22 hR hw) rfl (lA22 hR hw) rfl rfl rv4 (fun h3 h4 => ?_)
    refine v_c (sK10 hR hw).1 ?_
    refine rf_bind (f_Tree_printStart hw rfl h4 rfl rv2 hR) (fun g8 n6 hR7 => ?_)
    refine c_S hR7 hw (sK10 hR7 hw) (by decide) (show srf 10 0 2 = some 8 from rfl) ?_
    refine s_I (L := 120) hR7 (sA22 hR7 hw) rfl (lA22 hR7 hw) rfl rfl rv4 (fun h10 h11 => ?_)
    refine rf_bind (fL_Tree_print_52 hw rfl rv1 rfl rv2 rfl rv3 rfl rv4 rfl h11 hR7) (fun a13 n12 h => ?_)
    have hR14 : RC w y a13 n12 m := h
    refine rf_ck (fun h15 => ?_)
    exact rf_ok (by exact ⟨⟨(e_add rfl (e_n 1)), h15⟩, hR14⟩)
  · exact rf_ok (by exact hR)
noncomputable def NL_Tree_print_25 (v1 : Int) (v2 : Int) (v3 : Int) (v4 : Int) (n : NS) : Option (NS) :=
  it (fun s : Int × NS => nb_Tree_print_25 v1 v2 v3 s.1 s.2) (v4, n)
theorem fL_Tree_print_25 {w y : Prop} {g : g_S} {n : NS} {m : YS} (hw : w) {xv1 : Int32} {v1 : Int} (ev1 : xv1 = Int32.ofInt v1) (rv1 : inR v1) {xv2 : Nat} {v2 : Int} (ev2 : xv2 = aBy v2) (rv2 : 0 ≤ v2 ∧ v2 ≤ 631) {xv3 : Int32} {v3 : Int} (ev3 : xv3 = Int32.ofInt v3) (rv3 : inR v3) {xv4 : Int32} {v4 : Int} (ev4 : xv4 = Int32.ofInt v4) (rv4 : inR v4) (hR : RC w y g n m) : Rf (fun a b => RC w y a b m) (L_Tree_print_25 5 xv1 xv2 xv3 xv4 g) (NL_Tree_print_25 v1 v2 v3 v4 n) := by
  subst ev1
  subst ev2
  subst ev3
  subst ev4
  unfold L_Tree_print_25 NL_Tree_print_25
  refine rf_it (I := (fun a b => RI a.1 b.1 ∧ RC w y a.2 b.2 m)) (fun s t h => ?_) ⟨⟨rfl, rv4⟩, hR⟩
  exact fb_Tree_print_25 hw rfl rv1 rfl rv2 rfl rv3 h.1.1 h.1.2 h.2
theorem NL_Tree_print_25_eq (v1 : Int) (v2 : Int) (v3 : Int) (v4 : Int) (n : NS) : NL_Tree_print_25 v1 v2 v3 v4 n = itc (nb_Tree_print_25 v1 v2 v3 v4 n) (fun s => NL_Tree_print_25 v1 v2 v3 s.1 s.2) := it_eq2 (fun s : Int × NS => nb_Tree_print_25 v1 v2 v3 s.1 s.2) (v4, n)
noncomputable def N_Tree_print (v1 : Int) (v2 : Int) (n : NS) : Option (NS) :=
  (N_Tree_list n).bind fun n2 =>
  ix v1 120 <|
  ix v1 120 <|
  (NL_Tree_print_25 v1 v2 (n2 7 v1 9) (n2 7 v1 8) n2).bind <| fun n13 =>
  some n13
theorem f_Tree_print {w y : Prop} {g : g_S} {n : NS} {m : YS} (hw : w) {xv1 : Int32} {v1 : Int} (ev1 : xv1 = Int32.ofInt v1) (rv1 : inR v1) {xv2 : Nat} {v2 : Int} (ev2 : xv2 = aBy v2) (rv2 : 0 ≤ v2 ∧ v2 ≤ 631) (hR : RC w y g n m) : Rf (fun a b => RC w y a b m) (M_Tree_print 5 xv1 xv2 g) (N_Tree_print v1 v2 n) := by
  subst ev1
  subst ev2
  unfold M_Tree_print N_Tree_print
  refine v_c (sK10 hR hw).1 ?_
  refine rf_bind (f_Tree_list hw hR) (fun g4 n2 hR3 => ?_)
  refine c_S hR3 hw (sK10 hR3 hw) (by decide) (show srf 10 0 0 = some 6 from rfl) ?_
  refine s_S (p := aNd (_)) (L := 120) hR3 hw (sA20 hR3 hw) (by decide) (lA20 hR3 hw) rfl rfl rv1 (fun z1 z2 => srf20 z1 z2) (fun h6 => ?_)
  refine c_I (s := 9) hR3 (ce_nd hR3 hw (And.intro h6.1 (Int.le_of_lt h6.2))) rfl rfl (fun h8 => ?_)
  refine c_S hR3 hw (sK10 hR3 hw) (by decide) (show srf 10 0 0 = some 6 from rfl) ?_
  refine s_S (p := aNd (_)) (L := 120) hR3 hw (sA20 hR3 hw) (by decide) (lA20 hR3 hw) rfl rfl rv1 (fun z1 z2 => srf20 z1 z2) (fun h10 => ?_)
  refine c_I (s := 8) hR3 (ce_nd hR3 hw (And.intro h10.1 (Int.le_of_lt h10.2))) rfl rfl (fun h12 => ?_)
  refine rf_bind (fL_Tree_print_25 hw rfl rv1 rfl rv2 rfl h8 rfl h12 hR3) (fun a14 n13 h => ?_)
  have hR15 : RC w y a14 n13 m := h
  exact rf_ok (by exact hR15)
noncomputable def N_H_serialise (v1 : Int) (n : NS) : Option (Int × NS) :=
  (N_H_isNode v1 n).bind fun z2 =>
  if z2 = 0 then
    some ((-1), n)
  else
    (N_Bytes_clear 606 n).bind fun n9 =>
    (N_Tree_print v1 606 n9).bind fun n15 =>
    some ((n15 4 606 2), n15)
theorem f_H_serialise {w y : Prop} {g : g_S} {n : NS} {m : YS} (hw : w) {xv1 : Int32} {v1 : Int} (ev1 : xv1 = Int32.ofInt v1) (rv1 : inR v1) (hR : RC w y g n m) : Rf (fun a b => RI a.1 b.1 ∧ RC w y a.2 b.2 m) (M_H_serialise 0 xv1 g) (N_H_serialise v1 n) := by
  subst ev1
  unfold M_H_serialise N_H_serialise
  refine v_c (sK11 hR hw).1 ?_
  refine rf_bind (f_H_isNode hw rfl rv1 hR) (fun a4 z2 h => ?_)
  obtain ⟨rfl, r3⟩ := h
  refine rf_eq rfl (e_n 0) (inZ.r r3) (show inR 0 by decide) ?_ ?_
  · exact rf_ok (by exact ⟨⟨(e_m 1), (show inR (-1) by decide)⟩, hR⟩)
  · refine c_S hR hw (sK11 hR hw) (by decide) (show srf 11 0 1 = some 3 from rfl) ?_
    refine v_c (bS606 ▸ (ce_by hR hw (by decide))).1 ?_
    refine rf_bind (f_Bytes_clear hw bS606.symm (by decide) hR) (fun g11 n9 hR10 => ?_)
    refine c_S hR10 hw (sK11 hR10 hw) (by decide) (show srf 11 0 2 = some 5 from rfl) ?_
    refine c_S hR10 hw (sK11 hR10 hw) (by decide) (show srf 11 0 1 = some 3 from rfl) ?_
    refine v_c (sK10 hR10 hw).1 ?_
    refine rf_bind (f_Tree_print hw rfl rv1 bS606.symm (by decide) hR10) (fun g17 n15 hR16 => ?_)
    refine c_S hR16 hw (sK11 hR16 hw) (by decide) (show srf 11 0 1 = some 3 from rfl) ?_
    refine c_I (s := 2) hR16 (bS606 ▸ (ce_by hR16 hw (by decide))) rfl rfl (fun h19 => ?_)
    exact rf_ok (by exact ⟨⟨rfl, h19⟩, hR16⟩)
noncomputable def N_H_fault (v1 : Int) (v2 : Int) (n : NS) : Option (Int) :=
  if v1 < 0 then
    some (-1)
  else
    if v1 < (min (n 8 0 3) 40) then
      if v2 = 0 then
        ix v1 40 <|
        some (n 28 0 v1)
      else
        if v2 = 1 then
          ix v1 40 <|
          some (n 29 0 v1)
        else
          some (-1)
    else
      some (-1)
theorem f_H_fault {w y : Prop} {g : g_S} {n : NS} {m : YS} (hw : w) {xv1 : Int32} {v1 : Int} (ev1 : xv1 = Int32.ofInt v1) (rv1 : inR v1) {xv2 : Int32} {v2 : Int} (ev2 : xv2 = Int32.ofInt v2) (rv2 : inR v2) (hR : RC w y g n m) : Rf (fun a b => RI a b) (M_H_fault 0 xv1 xv2 g) (N_H_fault v1 v2 n) := by
  subst ev1
  subst ev2
  unfold M_H_fault N_H_fault
  refine rf_lt rfl (e_n 0) rv1 (show inR 0 by decide) ?_ ?_
  · exact rf_ok (by exact ⟨(e_m 1), (show inR (-1) by decide)⟩)
  · refine c_S hR hw (sK11 hR hw) (by decide) (show srf 11 0 4 = some 1631 from rfl) ?_
    refine c_I (s := 3) hR (sK8 hR hw) rfl rfl (fun h4 => ?_)
    refine rf_lt rfl (e_mn rfl (e_n 40) h4 (show inR 40 by decide)) rv1 (min_r h4 (show inR 40 by decide)) ?_ ?_
    · refine rf_eq rfl (e_n 0) rv2 (show inR 0 by decide) ?_ ?_
      · refine c_S hR hw (sK11 hR hw) (by decide) (show srf 11 0 4 = some 1631 from rfl) ?_
        refine c_S hR hw (sK8 hR hw) (by decide) (show srf 8 0 1 = some 1632 from rfl) ?_
        refine s_I (L := 40) hR (sA28 hR hw) rfl (lA28 hR hw) rfl rfl rv1 (fun h10 h11 => ?_)
        exact rf_ok (by exact ⟨rfl, h11⟩)
      · refine rf_eq rfl (e_n 1) rv2 (show inR 1 by decide) ?_ ?_
        · refine c_S hR hw (sK11 hR hw) (by decide) (show srf 11 0 4 = some 1631 from rfl) ?_
          refine c_S hR hw (sK8 hR hw) (by decide) (show srf 8 0 2 = some 1633 from rfl) ?_
          refine s_I (L := 40) hR (sA29 hR hw) rfl (lA29 hR hw) rfl rfl rv1 (fun h16 h17 => ?_)
          exact rf_ok (by exact ⟨rfl, h17⟩)
        · exact rf_ok (by exact ⟨(e_m 1), (show inR (-1) by decide)⟩)
    · exact rf_ok (by exact ⟨(e_m 1), (show inR (-1) by decide)⟩)
noncomputable def nk_Sheet_readPart_237 (v1 : Int) (v2 : Int) (v3 : Int) (v4 : Int) (v5 : Int) (v7 : Int) (w0 : Int) (w1 : Int) (w2 : Int) (n : NS) : Option ((Int × NS) ⊕ ((Int × NS) ⊕ (Int × NS))) :=
  ck (w1 + w0) <|
  ix w2 41 <|
  st (nw n 33 0 w2 (w1 + w0)) fun n3 =>
  ix v5 123 <|
  ck ((n3 36 0 v5) + 1) <|
  ix v5 123 <|
  st (nw n3 36 0 v5 ((n3 36 0 v5) + 1)) fun n11 =>
  some (.inl (v7, n11))
theorem fk_Sheet_readPart_237 {w y : Prop} {g : g_S} {n : NS} {m : YS} (hw : w) {xv1 : Nat} {v1 : Int} (ev1 : xv1 = Int.toNat v1) (rv1 : 0 ≤ v1 ∧ lc (Int.toNat v1) = (99, v1)) {xv2 : Int32} {v2 : Int} (ev2 : xv2 = Int32.ofInt v2) (rv2 : inR v2) {xv3 : Int32} {v3 : Int} (ev3 : xv3 = Int32.ofInt v3) (rv3 : inR v3) {xv4 : Int32} {v4 : Int} (ev4 : xv4 = Int32.ofInt v4) (rv4 : inR v4) {xv5 : Int32} {v5 : Int} (ev5 : xv5 = Int32.ofInt v5) (rv5 : inR v5) {xv7 : Int32} {v7 : Int} (ev7 : xv7 = Int32.ofInt v7) (rv7 : inR v7) {xw0 : Int32} {w0 : Int} (ew0 : xw0 = Int32.ofInt w0) (rw0 : inR w0) {xw1 : Int32} {w1 : Int} (ew1 : xw1 = Int32.ofInt w1) (rw1 : inR w1) {xw2 : Int32} {w2 : Int} (ew2 : xw2 = Int32.ofInt w2) (rw2 : inR w2) (hR : RC w y g n m) : Rf (RS (fun a b => RI a.1 b.1 ∧ RC w y a.2 b.2 m) (RS (fun a b => RI a.1 b.1 ∧ RC w y a.2 b.2 m) (fun a b => RI a.1 b.1 ∧ RC w y a.2 b.2 m))) (k_Sheet_readPart_237 1650 xv1 xv2 xv3 xv4 xv5 xv7 xw0 xw1 xw2 1652 g) (nk_Sheet_readPart_237 v1 v2 v3 v4 v5 v7 w0 w1 w2 n) := by
  subst ev1
  subst ev2
  subst ev3
  subst ev4
  subst ev5
  subst ev7
  subst ew0
  subst ew1
  subst ew2
  unfold k_Sheet_readPart_237 nk_Sheet_readPart_237
  refine rf_ck (fun h1 => ?_)
  refine t_I (L := 41) hR (sA33 hR hw) (lA33 hR hw) rfl rfl rw2 (e_add rfl rfl) h1 (fun g5 n3 hR4 => ?_)
  refine c_S hR4 hw (sK9 hR4 hw) (by decide) (show srf 9 0 5 = some 1655 from rfl) ?_
  refine s_I (L := 123) hR4 (sA36 hR4 hw) rfl (lA36 hR4 hw) rfl rfl rv5 (fun h7 h8 => ?_)
  refine rf_ck (fun h9 => ?_)
  refine t_I (L := 123) hR4 (sA36 hR4 hw) (lA36 hR4 hw) rfl rfl rv5 (e_add rfl (e_n 1)) h9 (fun g13 n11 hR12 => ?_)
  exact rf_ok (by exact ⟨⟨rfl, rv7⟩, hR12⟩)
noncomputable def nk_Sheet_readPart_194 (v1 : Int) (v2 : Int) (v3 : Int) (v4 : Int) (v5 : Int) (v6 : Int) (v7 : Int) (v8 : Int) (w0 : Int) (w1 : Int) (n : NS) : Option ((Int × NS) ⊕ ((Int × NS) ⊕ (Int × NS))) :=
  cz w0 <|
  ix w1 492 <|
  st (nw n 38 0 w1 w0) fun n3 =>
  ck (v6 + 1) <|
  (N_Bytes_pack v1 (v6 + 1) v7 n3).bind fun z9 =>
  ix v8 492 <|
  st (nw n3 37 0 v8 z9) fun n13 =>
  ix v4 41 <|
  ix v8 492 <|
  if (n13 38 0 v8) = 0 then
    nk_Sheet_readPart_237 v1 v2 v3 v4 v5 v7 10 (n13 33 0 v4) v4 n13
  else
    nk_Sheet_readPart_237 v1 v2 v3 v4 v5 v7 100 (n13 33 0 v4) v4 n13
theorem fk_Sheet_readPart_194 {w y : Prop} {g : g_S} {n : NS} {m : YS} (hw : w) {xv1 : Nat} {v1 : Int} (ev1 : xv1 = Int.toNat v1) (rv1 : 0 ≤ v1 ∧ lc (Int.toNat v1) = (99, v1)) {xv2 : Int32} {v2 : Int} (ev2 : xv2 = Int32.ofInt v2) (rv2 : inR v2) {xv3 : Int32} {v3 : Int} (ev3 : xv3 = Int32.ofInt v3) (rv3 : inR v3) {xv4 : Int32} {v4 : Int} (ev4 : xv4 = Int32.ofInt v4) (rv4 : inR v4) {xv5 : Int32} {v5 : Int} (ev5 : xv5 = Int32.ofInt v5) (rv5 : inR v5) {xv6 : Int32} {v6 : Int} (ev6 : xv6 = Int32.ofInt v6) (rv6 : inR v6) {xv7 : Int32} {v7 : Int} (ev7 : xv7 = Int32.ofInt v7) (rv7 : inR v7) {xv8 : Int32} {v8 : Int} (ev8 : xv8 = Int32.ofInt v8) (rv8 : inR v8) {xw0 : Int32} {w0 : Int} (ew0 : xw0 = Int32.ofInt w0) (rw0 : inR w0) {xw1 : Int32} {w1 : Int} (ew1 : xw1 = Int32.ofInt w1) (rw1 : inR w1) (hR : RC w y g n m) : Rf (RS (fun a b => RI a.1 b.1 ∧ RC w y a.2 b.2 m) (RS (fun a b => RI a.1 b.1 ∧ RC w y a.2 b.2 m) (fun a b => RI a.1 b.1 ∧ RC w y a.2 b.2 m))) (k_Sheet_readPart_194 1650 xv1 xv2 xv3 xv4 xv5 xv6 xv7 xv8 xw0 xw1 1657 g) (nk_Sheet_readPart_194 v1 v2 v3 v4 v5 v6 v7 v8 w0 w1 n) := by
  subst ev1
  subst ev2
  subst ev3
  subst ev4
  subst ev5
  subst ev6
  subst ev7
  subst ev8
  subst ew0
  subst ew1
  unfold k_Sheet_readPart_194 nk_Sheet_readPart_194
  refine rf_cz (fun h2 => ?_)
  refine t_Z (L := 492) hR (sA38 hR hw) (lA38 hR hw) rfl rfl rw1 rfl h2 (fun g5 n3 hR4 => ?_)
  refine c_S hR4 hw (sK9 hR4 hw) (by decide) (show srf 9 0 6 = some 1656 from rfl) ?_
  refine rf_ck (fun h7 => ?_)
  refine rf_bind (f_Bytes_pack rfl rv1 (e_add rfl (e_n 1)) h7 rfl rv7 hR4) (fun a11 z9 h => ?_)
  obtain ⟨rfl, r10⟩ := h
  refine t_L (L := 492) hR4 (sA37 hR4 hw) (lA37 hR4 hw) rfl rfl rv8 rfl r10 (fun g15 n13 hR14 => ?_)
  refine c_S hR14 hw (sK9 hR14 hw) (by decide) (show srf 9 0 2 = some 1652 from rfl) ?_
  refine s_I (L := 41) hR14 (sA33 hR14 hw) rfl (lA33 hR14 hw) rfl rfl rv4 (fun h17 h18 => ?_)
  refine c_S hR14 hw (sK9 hR14 hw) (by decide) (show srf 9 0 7 = some 1657 from rfl) ?_
  refine s_Z (L := 492) hR14 (sA38 hR14 hw) rfl (lA38 hR14 hw) rfl rfl rv8 (fun h20 h21 => ?_)
  refine rf_eq rfl (e_n 0) (inZ.r h21) (show inR 0 by decide) ?_ ?_
  · exact fk_Sheet_readPart_237 hw rfl rv1 rfl rv2 rfl rv3 rfl rv4 rfl rv5 rfl rv7 (e_n 10) (show inR 10 by decide) rfl h18 rfl rv4 hR14
  · exact fk_Sheet_readPart_237 hw rfl rv1 rfl rv2 rfl rv3 rfl rv4 rfl rv5 rfl rv7 (e_n 100) (show inR 100 by decide) rfl h18 rfl rv4 hR14
noncomputable def nk_Sheet_readPart_124 (v1 : Int) (v2 : Int) (v3 : Int) (v4 : Int) (v5 : Int) (v6 : Int) (n : NS) : Option ((Int × NS) ⊕ ((Int × NS) ⊕ (Int × NS))) :=
  ix v5 123 <|
  if (n 36 0 v5) < 4 then
    ck (v6 + 1) <|
    (N_Bytes_nameEnd v1 (v6 + 1) v3 n).bind fun z7 =>
    ck (v6 + 1) <|
    if z7 = (v6 + 1) then
      some (.inr (.inl (z7, n)))
    else
      ck (v5 * 4) <|
      ix v5 123 <|
      ck ((v5 * 4) + (n 36 0 v5)) <|
      dx n v1 1 v6 <|
      if (n 99 v1 v6) = 35 then
        nk_Sheet_readPart_194 v1 v2 v3 v4 v5 v6 z7 ((v5 * 4) + (n 36 0 v5)) 1 ((v5 * 4) + (n 36 0 v5)) n
      else
        nk_Sheet_readPart_194 v1 v2 v3 v4 v5 v6 z7 ((v5 * 4) + (n 36 0 v5)) 0 ((v5 * 4) + (n 36 0 v5)) n
  else
    some (.inr (.inr (v6, n)))
theorem fk_Sheet_readPart_124 {w y : Prop} {g : g_S} {n : NS} {m : YS} (hw : w) {xv1 : Nat} {v1 : Int} (ev1 : xv1 = Int.toNat v1) (rv1 : 0 ≤ v1 ∧ lc (Int.toNat v1) = (99, v1)) {xv2 : Int32} {v2 : Int} (ev2 : xv2 = Int32.ofInt v2) (rv2 : inR v2) {xv3 : Int32} {v3 : Int} (ev3 : xv3 = Int32.ofInt v3) (rv3 : inR v3) {xv4 : Int32} {v4 : Int} (ev4 : xv4 = Int32.ofInt v4) (rv4 : inR v4) {xv5 : Int32} {v5 : Int} (ev5 : xv5 = Int32.ofInt v5) (rv5 : inR v5) {xv6 : Int32} {v6 : Int} (ev6 : xv6 = Int32.ofInt v6) (rv6 : inR v6) (hR : RC w y g n m) : Rf (RS (fun a b => RI a.1 b.1 ∧ RC w y a.2 b.2 m) (RS (fun a b => RI a.1 b.1 ∧ RC w y a.2 b.2 m) (fun a b => RI a.1 b.1 ∧ RC w y a.2 b.2 m))) (k_Sheet_readPart_124 1650 xv1 xv2 xv3 xv4 xv5 xv6 g) (nk_Sheet_readPart_124 v1 v2 v3 v4 v5 v6 n) := by
  subst ev1
  subst ev2
  subst ev3
  subst ev4
  subst ev5
  subst ev6
  unfold k_Sheet_readPart_124 nk_Sheet_readPart_124
  refine c_S hR hw (sK9 hR hw) (by decide) (show srf 9 0 5 = some 1655 from rfl) ?_
  refine s_I (L := 123) hR (sA36 hR hw) rfl (lA36 hR hw) rfl rfl rv5 (fun h2 h3 => ?_)
  refine rf_lt rfl (e_n 4) h3 (show inR 4 by decide) ?_ ?_
  · refine rf_ck (fun h5 => ?_)
    refine rf_bind (f_Bytes_nameEnd rfl rv1 (e_add rfl (e_n 1)) h5 rfl rv3 hR) (fun a9 z7 h => ?_)
    obtain ⟨rfl, r8⟩ := h
    refine rf_ck (fun h10 => ?_)
    refine rf_eq rfl (e_add rfl (e_n 1)) r8 h10 ?_ ?_
    · exact rf_ok (by exact ⟨⟨rfl, r8⟩, hR⟩)
    · refine rf_ck (fun h12 => ?_)
      refine c_S hR hw (sK9 hR hw) (by decide) (show srf 9 0 5 = some 1655 from rfl) ?_
      refine s_I (L := 123) hR (sA36 hR hw) rfl (lA36 hR hw) rfl rfl rv5 (fun h14 h15 => ?_)
      refine rf_ck (fun h16 => ?_)
      refine c_S hR hw (sK9 hR hw) (by decide) (show srf 9 0 7 = some 1657 from rfl) ?_
      refine d_B hR rv1 rfl rv6 (fun h18 h19 => ?_)
      refine rf_eq rfl (e_n 35) (inB.r h19) (show inR 35 by decide) ?_ ?_
      · exact fk_Sheet_readPart_194 hw rfl rv1 rfl rv2 rfl rv3 rfl rv4 rfl rv5 rfl rv6 rfl r8 (e_add (e_mul rfl (e_n 4)) rfl) h16 (e_n 1) (show inR 1 by decide) (e_add (e_mul rfl (e_n 4)) rfl) h16 hR
      · exact fk_Sheet_readPart_194 hw rfl rv1 rfl rv2 rfl rv3 rfl rv4 rfl rv5 rfl rv6 rfl r8 (e_add (e_mul rfl (e_n 4)) rfl) h16 (e_n 0) (show inR 0 by decide) (e_add (e_mul rfl (e_n 4)) rfl) h16 hR
  · exact rf_ok (by exact ⟨⟨rfl, rv6⟩, hR⟩)
noncomputable def nb_Sheet_readPart_100 (v1 : Int) (v2 : Int) (v3 : Int) (v4 : Int) (v5 : Int) (v6 : Int) (n : NS) : Option ((Int × NS) ⊕ ((Int × NS) ⊕ (Int × NS))) :=
  if v6 < v3 then
    dx n v1 1 v6 <|
    if (n 99 v1 v6) = 46 then
      nk_Sheet_readPart_124 v1 v2 v3 v4 v5 v6 n
    else
      dx n v1 1 v6 <|
      if (n 99 v1 v6) = 35 then
        nk_Sheet_readPart_124 v1 v2 v3 v4 v5 v6 n
      else
        some (.inr (.inr (v6, n)))
  else
    some (.inr (.inr (v6, n)))
theorem fb_Sheet_readPart_100 {w y : Prop} {g : g_S} {n : NS} {m : YS} (hw : w) {xv1 : Nat} {v1 : Int} (ev1 : xv1 = Int.toNat v1) (rv1 : 0 ≤ v1 ∧ lc (Int.toNat v1) = (99, v1)) {xv2 : Int32} {v2 : Int} (ev2 : xv2 = Int32.ofInt v2) (rv2 : inR v2) {xv3 : Int32} {v3 : Int} (ev3 : xv3 = Int32.ofInt v3) (rv3 : inR v3) {xv4 : Int32} {v4 : Int} (ev4 : xv4 = Int32.ofInt v4) (rv4 : inR v4) {xv5 : Int32} {v5 : Int} (ev5 : xv5 = Int32.ofInt v5) (rv5 : inR v5) {xv6 : Int32} {v6 : Int} (ev6 : xv6 = Int32.ofInt v6) (rv6 : inR v6) (hR : RC w y g n m) : Rf (RS (fun a b => RI a.1 b.1 ∧ RC w y a.2 b.2 m) (RS (fun a b => RI a.1 b.1 ∧ RC w y a.2 b.2 m) (fun a b => RI a.1 b.1 ∧ RC w y a.2 b.2 m))) (b_Sheet_readPart_100 1650 xv1 xv2 xv3 xv4 xv5 xv6 g) (nb_Sheet_readPart_100 v1 v2 v3 v4 v5 v6 n) := by
  subst ev1
  subst ev2
  subst ev3
  subst ev4
  subst ev5
  subst ev6
  unfold b_Sheet_readPart_100 nb_Sheet_readPart_100
  refine rf_lt rfl rfl rv6 rv3 ?_ ?_
  · refine d_B hR rv1 rfl rv6 (fun h2 h3 => ?_)
    refine rf_eq rfl (e_n 46) (inB.r h3) (show inR 46 by decide) ?_ ?_
    · exact fk_Sheet_readPart_124 hw rfl rv1 rfl rv2 rfl rv3 rfl rv4 rfl rv5 rfl rv6 hR
    · refine d_B hR rv1 rfl rv6 (fun h5 h6 => ?_)
      refine rf_eq rfl (e_n 35) (inB.r h6) (show inR 35 by decide) ?_ ?_
      · exact fk_Sheet_readPart_124 hw rfl rv1 rfl rv2 rfl rv3 rfl rv4 rfl rv5 rfl rv6 hR
      · exact rf_ok (by exact ⟨⟨rfl, rv6⟩, hR⟩)
  · exact rf_ok (by exact ⟨⟨rfl, rv6⟩, hR⟩)
noncomputable def NL_Sheet_readPart_100 (v1 : Int) (v2 : Int) (v3 : Int) (v4 : Int) (v5 : Int) (v6 : Int) (n : NS) : Option ((Int × NS) ⊕ (Int × NS)) :=
  it (fun s : Int × NS => nb_Sheet_readPart_100 v1 v2 v3 v4 v5 s.1 s.2) (v6, n)
theorem fL_Sheet_readPart_100 {w y : Prop} {g : g_S} {n : NS} {m : YS} (hw : w) {xv1 : Nat} {v1 : Int} (ev1 : xv1 = Int.toNat v1) (rv1 : 0 ≤ v1 ∧ lc (Int.toNat v1) = (99, v1)) {xv2 : Int32} {v2 : Int} (ev2 : xv2 = Int32.ofInt v2) (rv2 : inR v2) {xv3 : Int32} {v3 : Int} (ev3 : xv3 = Int32.ofInt v3) (rv3 : inR v3) {xv4 : Int32} {v4 : Int} (ev4 : xv4 = Int32.ofInt v4) (rv4 : inR v4) {xv5 : Int32} {v5 : Int} (ev5 : xv5 = Int32.ofInt v5) (rv5 : inR v5) {xv6 : Int32} {v6 : Int} (ev6 : xv6 = Int32.ofInt v6) (rv6 : inR v6) (hR : RC w y g n m) : Rf (RS (fun a b => RI a.1 b.1 ∧ RC w y a.2 b.2 m) (fun a b => RI a.1 b.1 ∧ RC w y a.2 b.2 m)) (L_Sheet_readPart_100 1650 xv1 xv2 xv3 xv4 xv5 xv6 g) (NL_Sheet_readPart_100 v1 v2 v3 v4 v5 v6 n) := by
  subst ev1
  subst ev2
  subst ev3
  subst ev4
  subst ev5
  subst ev6
  unfold L_Sheet_readPart_100 NL_Sheet_readPart_100
  refine rf_it (I := (fun a b => RI a.1 b.1 ∧ RC w y a.2 b.2 m)) (fun s t h => ?_) ⟨⟨rfl, rv6⟩, hR⟩
  exact fb_Sheet_readPart_100 hw rfl rv1 rfl rv2 rfl rv3 rfl rv4 rfl rv5 h.1.1 h.1.2 h.2
theorem NL_Sheet_readPart_100_eq (v1 : Int) (v2 : Int) (v3 : Int) (v4 : Int) (v5 : Int) (v6 : Int) (n : NS) : NL_Sheet_readPart_100 v1 v2 v3 v4 v5 v6 n = itc (nb_Sheet_readPart_100 v1 v2 v3 v4 v5 v6 n) (fun s => NL_Sheet_readPart_100 v1 v2 v3 v4 v5 s.1 s.2) := it_eq2 (fun s : Int × NS => nb_Sheet_readPart_100 v1 v2 v3 v4 v5 s.1 s.2) (v6, n)
noncomputable def nk_Sheet_readPart_257 (v2 : Int) (v6 : Int) (n : NS) : Option (Int × NS) :=
  if v6 = v2 then
    ck ((-1) - v6) <|
    some ((-1) - v6, n)
  else
    some (v6, n)
theorem fk_Sheet_readPart_257 {w y : Prop} {g : g_S} {n : NS} {m : YS} (hw : w) {xv2 : Int32} {v2 : Int} (ev2 : xv2 = Int32.ofInt v2) (rv2 : inR v2) {xv6 : Int32} {v6 : Int} (ev6 : xv6 = Int32.ofInt v6) (rv6 : inR v6) (hR : RC w y g n m) : Rf (fun a b => RI a.1 b.1 ∧ RC w y a.2 b.2 m) (k_Sheet_readPart_257 xv2 xv6 g) (nk_Sheet_readPart_257 v2 v6 n) := by
  subst ev2
  subst ev6
  unfold k_Sheet_readPart_257 nk_Sheet_readPart_257
  refine rf_eq rfl rfl rv6 rv2 ?_ ?_
  · refine rf_ck (fun h2 => ?_)
    exact rf_ok (by exact ⟨⟨(e_sub (e_m 1) rfl), h2⟩, hR⟩)
  · exact rf_ok (by exact ⟨⟨rfl, rv6⟩, hR⟩)
noncomputable def nk_Sheet_readPart_92 (v1 : Int) (v2 : Int) (v3 : Int) (v4 : Int) (v5 : Int) (v6 : Int) (n : NS) : Option (Int × NS) :=
  ix v5 123 <|
  st (nw n 36 0 v5 0) fun n3 =>
  (NL_Sheet_readPart_100 v1 v2 v3 v4 v5 v6 n3).bind <|
    us (u2 fun z6 n7 =>
    ck ((-1) - z6) <|
    some ((-1) - z6, n7))
    (u2 fun z14 n15 =>
    nk_Sheet_readPart_257 v2 z14 n15)
theorem fk_Sheet_readPart_92 {w y : Prop} {g : g_S} {n : NS} {m : YS} (hw : w) {xv1 : Nat} {v1 : Int} (ev1 : xv1 = Int.toNat v1) (rv1 : 0 ≤ v1 ∧ lc (Int.toNat v1) = (99, v1)) {xv2 : Int32} {v2 : Int} (ev2 : xv2 = Int32.ofInt v2) (rv2 : inR v2) {xv3 : Int32} {v3 : Int} (ev3 : xv3 = Int32.ofInt v3) (rv3 : inR v3) {xv4 : Int32} {v4 : Int} (ev4 : xv4 = Int32.ofInt v4) (rv4 : inR v4) {xv5 : Int32} {v5 : Int} (ev5 : xv5 = Int32.ofInt v5) (rv5 : inR v5) {xv6 : Int32} {v6 : Int} (ev6 : xv6 = Int32.ofInt v6) (rv6 : inR v6) (hR : RC w y g n m) : Rf (fun a b => RI a.1 b.1 ∧ RC w y a.2 b.2 m) (k_Sheet_readPart_92 1650 xv1 xv2 xv3 xv4 xv5 xv6 g) (nk_Sheet_readPart_92 v1 v2 v3 v4 v5 v6 n) := by
  subst ev1
  subst ev2
  subst ev3
  subst ev4
  subst ev5
  subst ev6
  unfold k_Sheet_readPart_92 nk_Sheet_readPart_92
  refine c_S hR hw (sK9 hR hw) (by decide) (show srf 9 0 5 = some 1655 from rfl) ?_
  refine t_I (L := 123) hR (sA36 hR hw) (lA36 hR hw) rfl rfl rv5 (e_n 0) (show inR 0 by decide) (fun g5 n3 hR4 => ?_)
  refine rf_bind (fL_Sheet_readPart_100 hw rfl rv1 rfl rv2 rfl rv3 rfl rv4 rfl rv5 rfl rv6 hR4) (fun a b h => rf_us h (fun a b h => ?_) (fun a b h => ?_))
  · obtain ⟨a8, a9⟩ := a
    obtain ⟨z6, n7⟩ := b
    refine rf_u2 ?_
    obtain ⟨rfl, r11⟩ := (show RI a8 z6 from h.1)
    have hR10 : RC w y a9 n7 m := h.2
    refine rf_ck (fun h12 => ?_)
    exact rf_ok (by exact ⟨⟨(e_sub (e_m 1) rfl), h12⟩, hR10⟩)
  · obtain ⟨a16, a17⟩ := a
    obtain ⟨z14, n15⟩ := b
    refine rf_u2 ?_
    obtain ⟨rfl, r19⟩ := (show RI a16 z14 from h.1)
    have hR18 : RC w y a17 n15 m := h.2
    exact fk_Sheet_readPart_257 hw rfl rv2 rfl r19 hR18
noncomputable def nk_Sheet_readPart_66 (v1 : Int) (v2 : Int) (v3 : Int) (v4 : Int) (v5 : Int) (v6 : Int) (w0 : Int) (w1 : Int) (w2 : Int) (n : NS) : Option (Int × NS) :=
  ck (w1 + w0) <|
  ix w2 41 <|
  st (nw n 33 0 w2 (w1 + w0)) fun n3 =>
  if v6 = v2 then
    if v6 < v3 then
      dx n3 v1 1 v6 <|
      if (n3 99 v1 v6) = 42 then
        ck (v6 + 1) <|
        nk_Sheet_readPart_92 v1 v2 v3 v4 v5 (v6 + 1) n3
      else
        nk_Sheet_readPart_92 v1 v2 v3 v4 v5 v6 n3
    else
      nk_Sheet_readPart_92 v1 v2 v3 v4 v5 v6 n3
  else
    nk_Sheet_readPart_92 v1 v2 v3 v4 v5 v6 n3
theorem fk_Sheet_readPart_66 {w y : Prop} {g : g_S} {n : NS} {m : YS} (hw : w) {xv1 : Nat} {v1 : Int} (ev1 : xv1 = Int.toNat v1) (rv1 : 0 ≤ v1 ∧ lc (Int.toNat v1) = (99, v1)) {xv2 : Int32} {v2 : Int} (ev2 : xv2 = Int32.ofInt v2) (rv2 : inR v2) {xv3 : Int32} {v3 : Int} (ev3 : xv3 = Int32.ofInt v3) (rv3 : inR v3) {xv4 : Int32} {v4 : Int} (ev4 : xv4 = Int32.ofInt v4) (rv4 : inR v4) {xv5 : Int32} {v5 : Int} (ev5 : xv5 = Int32.ofInt v5) (rv5 : inR v5) {xv6 : Int32} {v6 : Int} (ev6 : xv6 = Int32.ofInt v6) (rv6 : inR v6) {xw0 : Int32} {w0 : Int} (ew0 : xw0 = Int32.ofInt w0) (rw0 : inR w0) {xw1 : Int32} {w1 : Int} (ew1 : xw1 = Int32.ofInt w1) (rw1 : inR w1) {xw2 : Int32} {w2 : Int} (ew2 : xw2 = Int32.ofInt w2) (rw2 : inR w2) (hR : RC w y g n m) : Rf (fun a b => RI a.1 b.1 ∧ RC w y a.2 b.2 m) (k_Sheet_readPart_66 1650 xv1 xv2 xv3 xv4 xv5 xv6 xw0 xw1 xw2 1652 g) (nk_Sheet_readPart_66 v1 v2 v3 v4 v5 v6 w0 w1 w2 n) := by
  subst ev1
  subst ev2
  subst ev3
  subst ev4
  subst ev5
  subst ev6
  subst ew0
  subst ew1
  subst ew2
  unfold k_Sheet_readPart_66 nk_Sheet_readPart_66
  refine rf_ck (fun h1 => ?_)
  refine t_I (L := 41) hR (sA33 hR hw) (lA33 hR hw) rfl rfl rw2 (e_add rfl rfl) h1 (fun g5 n3 hR4 => ?_)
  refine rf_eq rfl rfl rv6 rv2 ?_ ?_
  · refine rf_lt rfl rfl rv6 rv3 ?_ ?_
    · refine d_B hR4 rv1 rfl rv6 (fun h8 h9 => ?_)
      refine rf_eq rfl (e_n 42) (inB.r h9) (show inR 42 by decide) ?_ ?_
      · refine rf_ck (fun h11 => ?_)
        exact fk_Sheet_readPart_92 hw rfl rv1 rfl rv2 rfl rv3 rfl rv4 rfl rv5 (e_add rfl (e_n 1)) h11 hR4
      · exact fk_Sheet_readPart_92 hw rfl rv1 rfl rv2 rfl rv3 rfl rv4 rfl rv5 rfl rv6 hR4
    · exact fk_Sheet_readPart_92 hw rfl rv1 rfl rv2 rfl rv3 rfl rv4 rfl rv5 rfl rv6 hR4
  · exact fk_Sheet_readPart_92 hw rfl rv1 rfl rv2 rfl rv3 rfl rv4 rfl rv5 rfl rv6 hR4
noncomputable def N_Sheet_readPart (v1 : Int) (v2 : Int) (v3 : Int) (v4 : Int) (n : NS) : Option (Int × NS) :=
  ck (v4 * 3) <|
  ix v4 41 <|
  ck ((v4 * 3) + (n 32 0 v4)) <|
  ix v4 41 <|
  ck ((n 32 0 v4) + 1) <|
  ix v4 41 <|
  st (nw n 32 0 v4 ((n 32 0 v4) + 1)) fun n11 =>
  (N_Bytes_nameEnd v1 v2 v3 n11).bind fun z15 =>
  (N_Bytes_pack v1 v2 z15 n11).bind fun z20 =>
  ix ((v4 * 3) + (n 32 0 v4)) 123 <|
  st (nw n11 35 0 ((v4 * 3) + (n 32 0 v4)) z20) fun n24 =>
  ix v4 41 <|
  if v2 < z15 then
    nk_Sheet_readPart_66 v1 v2 v3 v4 ((v4 * 3) + (n 32 0 v4)) z15 1 (n24 33 0 v4) v4 n24
  else
    nk_Sheet_readPart_66 v1 v2 v3 v4 ((v4 * 3) + (n 32 0 v4)) z15 0 (n24 33 0 v4) v4 n24
theorem f_Sheet_readPart {w y : Prop} {g : g_S} {n : NS} {m : YS} (hw : w) {xv1 : Nat} {v1 : Int} (ev1 : xv1 = Int.toNat v1) (rv1 : 0 ≤ v1 ∧ lc (Int.toNat v1) = (99, v1)) {xv2 : Int32} {v2 : Int} (ev2 : xv2 = Int32.ofInt v2) (rv2 : inR v2) {xv3 : Int32} {v3 : Int} (ev3 : xv3 = Int32.ofInt v3) (rv3 : inR v3) {xv4 : Int32} {v4 : Int} (ev4 : xv4 = Int32.ofInt v4) (rv4 : inR v4) (hR : RC w y g n m) : Rf (fun a b => RI a.1 b.1 ∧ RC w y a.2 b.2 m) (M_Sheet_readPart 1650 xv1 xv2 xv3 xv4 g) (N_Sheet_readPart v1 v2 v3 v4 n) := by
  subst ev1
  subst ev2
  subst ev3
  subst ev4
  unfold M_Sheet_readPart N_Sheet_readPart
  refine rf_ck (fun h1 => ?_)
  refine c_S hR hw (sK9 hR hw) (by decide) (show srf 9 0 1 = some 1651 from rfl) ?_
  refine s_I (L := 41) hR (sA32 hR hw) rfl (lA32 hR hw) rfl rfl rv4 (fun h3 h4 => ?_)
  refine rf_ck (fun h5 => ?_)
  refine c_S hR hw (sK9 hR hw) (by decide) (show srf 9 0 1 = some 1651 from rfl) ?_
  refine s_I (L := 41) hR (sA32 hR hw) rfl (lA32 hR hw) rfl rfl rv4 (fun h7 h8 => ?_)
  refine rf_ck (fun h9 => ?_)
  refine t_I (L := 41) hR (sA32 hR hw) (lA32 hR hw) rfl rfl rv4 (e_add rfl (e_n 1)) h9 (fun g13 n11 hR12 => ?_)
  refine rf_bind (f_Bytes_nameEnd rfl rv1 rfl rv2 rfl rv3 hR12) (fun a17 z15 h => ?_)
  obtain ⟨rfl, r16⟩ := h
  refine c_S hR12 hw (sK9 hR12 hw) (by decide) (show srf 9 0 4 = some 1654 from rfl) ?_
  refine rf_bind (f_Bytes_pack rfl rv1 rfl rv2 rfl r16 hR12) (fun a22 z20 h => ?_)
  obtain ⟨rfl, r21⟩ := h
  refine t_L (L := 123) hR12 (sA35 hR12 hw) (lA35 hR12 hw) rfl (e_add (e_mul rfl (e_n 3)) rfl) h5 rfl r21 (fun g26 n24 hR25 => ?_)
  refine c_S hR25 hw (sK9 hR25 hw) (by decide) (show srf 9 0 2 = some 1652 from rfl) ?_
  refine s_I (L := 41) hR25 (sA33 hR25 hw) rfl (lA33 hR25 hw) rfl rfl rv4 (fun h28 h29 => ?_)
  refine rf_lt rfl rfl rv2 r16 ?_ ?_
  · exact fk_Sheet_readPart_66 hw rfl rv1 rfl rv2 rfl rv3 rfl rv4 (e_add (e_mul rfl (e_n 3)) rfl) h5 rfl r16 (e_n 1) (show inR 1 by decide) rfl h29 rfl rv4 hR25
  · exact fk_Sheet_readPart_66 hw rfl rv1 rfl rv2 rfl rv3 rfl rv4 (e_add (e_mul rfl (e_n 3)) rfl) h5 rfl r16 (e_n 0) (show inR 0 by decide) rfl h29 rfl rv4 hR25
noncomputable def nb_Sheet_skipBlanks_2 (v0 : Int) (v2 : Int) (v3 : Int) (n : NS) : Option ((Int) ⊕ (Int)) :=
  if v3 < v2 then
    dx n v0 1 v3 <|
    (N_Bytes_isBlank (n 99 v0 v3) n).bind fun z5 =>
    if z5 = 0 then
      some (.inr v3)
    else
      ck (v3 + 1) <|
      some (.inl (v3 + 1))
  else
    some (.inr v3)
theorem fb_Sheet_skipBlanks_2 {w y : Prop} {g : g_S} {n : NS} {m : YS} {xv0 : Nat} {v0 : Int} (ev0 : xv0 = Int.toNat v0) (rv0 : 0 ≤ v0 ∧ lc (Int.toNat v0) = (99, v0)) {xv2 : Int32} {v2 : Int} (ev2 : xv2 = Int32.ofInt v2) (rv2 : inR v2) {xv3 : Int32} {v3 : Int} (ev3 : xv3 = Int32.ofInt v3) (rv3 : inR v3) (hR : RC w y g n m) : Rf (RS (fun a b => RI a b) (fun a b => RI a b)) (b_Sheet_skipBlanks_2 xv0 xv2 xv3 g) (nb_Sheet_skipBlanks_2 v0 v2 v3 n) := by
  subst ev0
  subst ev2
  subst ev3
  unfold b_Sheet_skipBlanks_2 nb_Sheet_skipBlanks_2
  refine rf_lt rfl rfl rv3 rv2 ?_ ?_
  · refine d_B hR rv0 rfl rv3 (fun h2 h3 => ?_)
    refine rf_bind (f_Bytes_isBlank rfl (inB.r h3) hR) (fun a7 z5 h => ?_)
    obtain ⟨rfl, r6⟩ := h
    refine rf_eq rfl (e_n 0) (inZ.r r6) (show inR 0 by decide) ?_ ?_
    · exact rf_ok (by exact ⟨rfl, rv3⟩)
    · refine rf_ck (fun h9 => ?_)
      exact rf_ok (by exact ⟨(e_add rfl (e_n 1)), h9⟩)
  · exact rf_ok (by exact ⟨rfl, rv3⟩)
noncomputable def NL_Sheet_skipBlanks_2 (v0 : Int) (v2 : Int) (v3 : Int) (n : NS) : Option (Int) :=
  it (fun s : Int => nb_Sheet_skipBlanks_2 v0 v2 s n) (v3)
theorem fL_Sheet_skipBlanks_2 {w y : Prop} {g : g_S} {n : NS} {m : YS} {xv0 : Nat} {v0 : Int} (ev0 : xv0 = Int.toNat v0) (rv0 : 0 ≤ v0 ∧ lc (Int.toNat v0) = (99, v0)) {xv2 : Int32} {v2 : Int} (ev2 : xv2 = Int32.ofInt v2) (rv2 : inR v2) {xv3 : Int32} {v3 : Int} (ev3 : xv3 = Int32.ofInt v3) (rv3 : inR v3) (hR : RC w y g n m) : Rf (fun a b => RI a b) (L_Sheet_skipBlanks_2 xv0 xv2 xv3 g) (NL_Sheet_skipBlanks_2 v0 v2 v3 n) := by
  subst ev0
  subst ev2
  subst ev3
  unfold L_Sheet_skipBlanks_2 NL_Sheet_skipBlanks_2
  refine rf_it (I := (fun a b => RI a b)) (fun s t h => ?_) ⟨rfl, rv3⟩
  exact fb_Sheet_skipBlanks_2 rfl rv0 rfl rv2 h.1 h.2 hR
theorem NL_Sheet_skipBlanks_2_eq (v0 : Int) (v2 : Int) (v3 : Int) (n : NS) : NL_Sheet_skipBlanks_2 v0 v2 v3 n = itc (nb_Sheet_skipBlanks_2 v0 v2 v3 n) (fun s => NL_Sheet_skipBlanks_2 v0 v2 s n) := it_eq2 (fun s : Int => nb_Sheet_skipBlanks_2 v0 v2 s n) (v3)
noncomputable def N_Sheet_skipBlanks (v0 : Int) (v1 : Int) (v2 : Int) (n : NS) : Option (Int) :=
  (NL_Sheet_skipBlanks_2 v0 v2 v1 n).bind <| fun z1 =>
  some z1
theorem f_Sheet_skipBlanks {w y : Prop} {g : g_S} {n : NS} {m : YS} {xv0 : Nat} {v0 : Int} (ev0 : xv0 = Int.toNat v0) (rv0 : 0 ≤ v0 ∧ lc (Int.toNat v0) = (99, v0)) {xv1 : Int32} {v1 : Int} (ev1 : xv1 = Int32.ofInt v1) (rv1 : inR v1) {xv2 : Int32} {v2 : Int} (ev2 : xv2 = Int32.ofInt v2) (rv2 : inR v2) (hR : RC w y g n m) : Rf (fun a b => RI a b) (M_Sheet_skipBlanks xv0 xv1 xv2 g) (N_Sheet_skipBlanks v0 v1 v2 n) := by
  subst ev0
  subst ev1
  subst ev2
  unfold M_Sheet_skipBlanks N_Sheet_skipBlanks
  refine rf_bind (fL_Sheet_skipBlanks_2 rfl rv0 rfl rv2 rfl rv1 hR) (fun a2 z1 h => ?_)
  obtain ⟨rfl, r3⟩ := (show RI a2 z1 from h)
  exact rf_ok (by exact ⟨rfl, r3⟩)
noncomputable def nb_Sheet_readSelector_22 (v1 : Int) (v3 : Int) (v4 : Int) (v5 : Int) (v6 : Int) (n : NS) : Option ((Int × Int × NS) ⊕ ((Int × NS) ⊕ (NS) ⊕ (Int × NS) ⊕ (Int × NS))) :=
  if v6 < 3 then
    (N_Sheet_readPart v1 v5 v3 v4 n).bind <| u2 fun z3 n6 =>
    if z3 < 0 then
      some (.inr (.inl (z3, n6)))
    else
      if z3 = v3 then
        some (.inr (.inr (.inl n6)))
      else
        dx n6 v1 1 z3 <|
        (N_Bytes_isBlank (n6 99 v1 z3) n6).bind fun z14 =>
        if z14 = 0 then
          some (.inr (.inr (.inr (.inl (z3, n6)))))
        else
          if v6 = 2 then
            some (.inr (.inr (.inr (.inl (z3, n6)))))
          else
            (N_Sheet_skipBlanks v1 z3 v3 n6).bind fun z20 =>
            ck (v6 + 1) <|
            some (.inl (z20, v6 + 1, n6))
  else
    some (.inr (.inr (.inr (.inr (v5, n)))))
theorem fb_Sheet_readSelector_22 {w y : Prop} {g : g_S} {n : NS} {m : YS} (hw : w) {xv1 : Nat} {v1 : Int} (ev1 : xv1 = Int.toNat v1) (rv1 : 0 ≤ v1 ∧ lc (Int.toNat v1) = (99, v1)) {xv3 : Int32} {v3 : Int} (ev3 : xv3 = Int32.ofInt v3) (rv3 : inR v3) {xv4 : Int32} {v4 : Int} (ev4 : xv4 = Int32.ofInt v4) (rv4 : inR v4) {xv5 : Int32} {v5 : Int} (ev5 : xv5 = Int32.ofInt v5) (rv5 : inR v5) {xv6 : Int32} {v6 : Int} (ev6 : xv6 = Int32.ofInt v6) (rv6 : inR v6) (hR : RC w y g n m) : Rf (RS (fun a b => RI a.1 b.1 ∧ RI a.2.1 b.2.1 ∧ RC w y a.2.2 b.2.2 m) (RS (fun a b => RI a.1 b.1 ∧ RC w y a.2 b.2 m) (RS (fun a b => RC w y a b m) (RS (fun a b => RI a.1 b.1 ∧ RC w y a.2 b.2 m) (fun a b => RI a.1 b.1 ∧ RC w y a.2 b.2 m))))) (b_Sheet_readSelector_22 1650 xv1 xv3 xv4 xv5 xv6 g) (nb_Sheet_readSelector_22 v1 v3 v4 v5 v6 n) := by
  subst ev1
  subst ev3
  subst ev4
  subst ev5
  subst ev6
  unfold b_Sheet_readSelector_22 nb_Sheet_readSelector_22
  refine rf_lt rfl (e_n 3) rv6 (show inR 3 by decide) ?_ ?_
  · refine v_c2 (sK9 hR hw).1 ?_
    refine rf_c2 (f_Sheet_readPart hw rfl rv1 rfl rv5 rfl rv3 rfl rv4 hR) (fun a5 g8 b h => ?_)
    obtain ⟨z3, n6⟩ := b
    refine rf_v2 ?_
    obtain ⟨rfl, r4⟩ := (show RI a5 z3 from h.1)
    have hR7 : RC w y g8 n6 m := h.2
    refine rf_lt rfl (e_n 0) r4 (show inR 0 by decide) ?_ ?_
    · exact rf_ok (by exact ⟨⟨rfl, r4⟩, hR7⟩)
    · refine rf_eq rfl rfl r4 rv3 ?_ ?_
      · exact rf_ok (by exact hR7)
      · refine d_B hR7 rv1 rfl r4 (fun h11 h12 => ?_)
        refine rf_bind (f_Bytes_isBlank rfl (inB.r h12) hR7) (fun a16 z14 h => ?_)
        obtain ⟨rfl, r15⟩ := h
        refine rf_eq rfl (e_n 0) (inZ.r r15) (show inR 0 by decide) ?_ ?_
        · exact rf_ok (by exact ⟨⟨rfl, r4⟩, hR7⟩)
        · refine rf_eq rfl (e_n 2) rv6 (show inR 2 by decide) ?_ ?_
          · exact rf_ok (by exact ⟨⟨rfl, r4⟩, hR7⟩)
          · refine rf_bind (f_Sheet_skipBlanks rfl rv1 rfl r4 rfl rv3 hR7) (fun a22 z20 h => ?_)
            obtain ⟨rfl, r21⟩ := h
            refine rf_ck (fun h23 => ?_)
            exact rf_ok (by exact ⟨⟨rfl, r21⟩, ⟨(e_add rfl (e_n 1)), h23⟩, hR7⟩)
  · exact rf_ok (by exact ⟨⟨rfl, rv5⟩, hR⟩)
noncomputable def NL_Sheet_readSelector_22 (v1 : Int) (v3 : Int) (v4 : Int) (v5 : Int) (v6 : Int) (n : NS) : Option ((Int × NS) ⊕ (NS) ⊕ (Int × NS) ⊕ (Int × NS)) :=
  it (fun s : Int × Int × NS => nb_Sheet_readSelector_22 v1 v3 v4 s.1 s.2.1 s.2.2) (v5, v6, n)
theorem fL_Sheet_readSelector_22 {w y : Prop} {g : g_S} {n : NS} {m : YS} (hw : w) {xv1 : Nat} {v1 : Int} (ev1 : xv1 = Int.toNat v1) (rv1 : 0 ≤ v1 ∧ lc (Int.toNat v1) = (99, v1)) {xv3 : Int32} {v3 : Int} (ev3 : xv3 = Int32.ofInt v3) (rv3 : inR v3) {xv4 : Int32} {v4 : Int} (ev4 : xv4 = Int32.ofInt v4) (rv4 : inR v4) {xv5 : Int32} {v5 : Int} (ev5 : xv5 = Int32.ofInt v5) (rv5 : inR v5) {xv6 : Int32} {v6 : Int} (ev6 : xv6 = Int32.ofInt v6) (rv6 : inR v6) (hR : RC w y g n m) : Rf (RS (fun a b => RI a.1 b.1 ∧ RC w y a.2 b.2 m) (RS (fun a b => RC w y a b m) (RS (fun a b => RI a.1 b.1 ∧ RC w y a.2 b.2 m) (fun a b => RI a.1 b.1 ∧ RC w y a.2 b.2 m)))) (L_Sheet_readSelector_22 1650 xv1 xv3 xv4 xv5 xv6 g) (NL_Sheet_readSelector_22 v1 v3 v4 v5 v6 n) := by
  subst ev1
  subst ev3
  subst ev4
  subst ev5
  subst ev6
  unfold L_Sheet_readSelector_22 NL_Sheet_readSelector_22
  refine rf_it (I := (fun a b => RI a.1 b.1 ∧ RI a.2.1 b.2.1 ∧ RC w y a.2.2 b.2.2 m)) (fun s t h => ?_) ⟨⟨rfl, rv5⟩, ⟨rfl, rv6⟩, hR⟩
  exact fb_Sheet_readSelector_22 hw rfl rv1 rfl rv3 rfl rv4 h.1.1 h.1.2 h.2.1.1 h.2.1.2 h.2.2
theorem NL_Sheet_readSelector_22_eq (v1 : Int) (v3 : Int) (v4 : Int) (v5 : Int) (v6 : Int) (n : NS) : NL_Sheet_readSelector_22 v1 v3 v4 v5 v6 n = itc (nb_Sheet_readSelector_22 v1 v3 v4 v5 v6 n) (fun s => NL_Sheet_readSelector_22 v1 v3 v4 s.1 s.2.1 s.2.2) := it_eq2 (fun s : Int × Int × NS => nb_Sheet_readSelector_22 v1 v3 v4 s.1 s.2.1 s.2.2) (v5, v6, n)
noncomputable def N_Sheet_readSelector (v1 : Int) (v2 : Int) (v3 : Int) (v4 : Int) (n : NS) : Option (Int × NS) :=
  ix v4 41 <|
  st (nw n 32 0 v4 0) fun n3 =>
  ix v4 41 <|
  st (nw n3 33 0 v4 0) fun n8 =>
  (NL_Sheet_readSelector_22 v1 v3 v4 v2 0 n8).bind <|
    us (u2 fun z11 n12 =>
    ck ((-1) - z11) <|
    some ((-1) - z11, n12))
    (us (fun n19 =>
    some ((-1), n19))
    (us (u2 fun z23 n24 =>
    some (z23, n24))
    (u2 fun z30 n31 =>
    some (z30, n31))))
theorem f_Sheet_readSelector {w y : Prop} {g : g_S} {n : NS} {m : YS} (hw : w) {xv1 : Nat} {v1 : Int} (ev1 : xv1 = Int.toNat v1) (rv1 : 0 ≤ v1 ∧ lc (Int.toNat v1) = (99, v1)) {xv2 : Int32} {v2 : Int} (ev2 : xv2 = Int32.ofInt v2) (rv2 : inR v2) {xv3 : Int32} {v3 : Int} (ev3 : xv3 = Int32.ofInt v3) (rv3 : inR v3) {xv4 : Int32} {v4 : Int} (ev4 : xv4 = Int32.ofInt v4) (rv4 : inR v4) (hR : RC w y g n m) : Rf (fun a b => RI a.1 b.1 ∧ RC w y a.2 b.2 m) (M_Sheet_readSelector 1650 xv1 xv2 xv3 xv4 g) (N_Sheet_readSelector v1 v2 v3 v4 n) := by
  subst ev1
  subst ev2
  subst ev3
  subst ev4
  unfold M_Sheet_readSelector N_Sheet_readSelector
  refine c_S hR hw (sK9 hR hw) (by decide) (show srf 9 0 1 = some 1651 from rfl) ?_
  refine t_I (L := 41) hR (sA32 hR hw) (lA32 hR hw) rfl rfl rv4 (e_n 0) (show inR 0 by decide) (fun g5 n3 hR4 => ?_)
  refine c_S hR4 hw (sK9 hR4 hw) (by decide) (show srf 9 0 2 = some 1652 from rfl) ?_
  refine t_I (L := 41) hR4 (sA33 hR4 hw) (lA33 hR4 hw) rfl rfl rv4 (e_n 0) (show inR 0 by decide) (fun g10 n8 hR9 => ?_)
  refine rf_bind (fL_Sheet_readSelector_22 hw rfl rv1 rfl rv3 rfl rv4 rfl rv2 (e_n 0) (show inR 0 by decide) hR9) (fun a b h => rf_us h (fun a b h => ?_) (fun a b h => rf_us h (fun a20 n19 h => ?_) (fun a b h => rf_us h (fun a b h => ?_) (fun a b h => ?_))))
  · obtain ⟨a13, a14⟩ := a
    obtain ⟨z11, n12⟩ := b
    refine rf_u2 ?_
    obtain ⟨rfl, r16⟩ := (show RI a13 z11 from h.1)
    have hR15 : RC w y a14 n12 m := h.2
    refine rf_ck (fun h17 => ?_)
    exact rf_ok (by exact ⟨⟨(e_sub (e_m 1) rfl), h17⟩, hR15⟩)
  · have hR21 : RC w y a20 n19 m := h
    exact rf_ok (by exact ⟨⟨(e_m 1), (show inR (-1) by decide)⟩, hR21⟩)
  · obtain ⟨a25, a26⟩ := a
    obtain ⟨z23, n24⟩ := b
    refine rf_u2 ?_
    obtain ⟨rfl, r28⟩ := (show RI a25 z23 from h.1)
    have hR27 : RC w y a26 n24 m := h.2
    exact rf_ok (by exact ⟨⟨rfl, r28⟩, hR27⟩)
  · obtain ⟨a32, a33⟩ := a
    obtain ⟨z30, n31⟩ := b
    refine rf_u2 ?_
    obtain ⟨rfl, r35⟩ := (show RI a32 z30 from h.1)
    have hR34 : RC w y a33 n31 m := h.2
    exact rf_ok (by exact ⟨⟨rfl, r35⟩, hR34⟩)
noncomputable def nb_Sheet_hasWord_13 (v0 : Int) (v1 : Int) (v3 : Int) (v4 : Int) (n : NS) : Option ((Int) ⊕ (Int)) :=
  if v4 < (n 4 v0 2) then
    nn (n 4 v0 1) <|
    dx n (n 4 v0 1) 1 v4 <|
    (N_Bytes_isBlank (n 99 (n 4 v0 1) v4) n).bind fun z7 =>
    if z7 = 0 then
      ck (v4 + 1) <|
      some (.inl (v4 + 1))
    else
      some (.inr v4)
  else
    some (.inr v4)
theorem fb_Sheet_hasWord_13 {w y : Prop} {g : g_S} {n : NS} {m : YS} (hw : w) {xv0 : Nat} {v0 : Int} (ev0 : xv0 = aBy v0) (rv0 : 0 ≤ v0 ∧ v0 ≤ 631) {xv1 : Int64} {v1 : Int} (ev1 : xv1 = Int64.ofInt v1) (rv1 : inL v1) {xv3 : Int32} {v3 : Int} (ev3 : xv3 = Int32.ofInt v3) (rv3 : inR v3) {xv4 : Int32} {v4 : Int} (ev4 : xv4 = Int32.ofInt v4) (rv4 : inR v4) (hR : RC w y g n m) : Rf (RS (fun a b => RI a b) (fun a b => RI a b)) (b_Sheet_hasWord_13 xv0 xv1 xv3 xv4 g) (nb_Sheet_hasWord_13 v0 v1 v3 v4 n) := by
  subst ev0
  subst ev1
  subst ev3
  subst ev4
  unfold b_Sheet_hasWord_13 nb_Sheet_hasWord_13
  refine c_I (s := 2) hR (ce_by hR hw rv0) rfl rfl (fun h1 => ?_)
  refine rf_lt rfl rfl rv4 h1 ?_ ?_
  · refine c_D (s := 1) hR (ce_by hR hw rv0) rfl rfl rfl (fun h3 => ?_)
    refine d_B hR h3 rfl rv4 (fun h4 h5 => ?_)
    refine rf_bind (f_Bytes_isBlank rfl (inB.r h5) hR) (fun a9 z7 h => ?_)
    obtain ⟨rfl, r8⟩ := h
    refine rf_eq rfl (e_n 0) (inZ.r r8) (show inR 0 by decide) ?_ ?_
    · refine rf_ck (fun h11 => ?_)
      exact rf_ok (by exact ⟨(e_add rfl (e_n 1)), h11⟩)
    · exact rf_ok (by exact ⟨rfl, rv4⟩)
  · exact rf_ok (by exact ⟨rfl, rv4⟩)
noncomputable def NL_Sheet_hasWord_13 (v0 : Int) (v1 : Int) (v3 : Int) (v4 : Int) (n : NS) : Option (Int) :=
  it (fun s : Int => nb_Sheet_hasWord_13 v0 v1 v3 s n) (v4)
theorem fL_Sheet_hasWord_13 {w y : Prop} {g : g_S} {n : NS} {m : YS} (hw : w) {xv0 : Nat} {v0 : Int} (ev0 : xv0 = aBy v0) (rv0 : 0 ≤ v0 ∧ v0 ≤ 631) {xv1 : Int64} {v1 : Int} (ev1 : xv1 = Int64.ofInt v1) (rv1 : inL v1) {xv3 : Int32} {v3 : Int} (ev3 : xv3 = Int32.ofInt v3) (rv3 : inR v3) {xv4 : Int32} {v4 : Int} (ev4 : xv4 = Int32.ofInt v4) (rv4 : inR v4) (hR : RC w y g n m) : Rf (fun a b => RI a b) (L_Sheet_hasWord_13 xv0 xv1 xv3 xv4 g) (NL_Sheet_hasWord_13 v0 v1 v3 v4 n) := by
  subst ev0
  subst ev1
  subst ev3
  subst ev4
  unfold L_Sheet_hasWord_13 NL_Sheet_hasWord_13
  refine rf_it (I := (fun a b => RI a b)) (fun s t h => ?_) ⟨rfl, rv4⟩
  exact fb_Sheet_hasWord_13 hw rfl rv0 rfl rv1 rfl rv3 h.1 h.2 hR
theorem NL_Sheet_hasWord_13_eq (v0 : Int) (v1 : Int) (v3 : Int) (v4 : Int) (n : NS) : NL_Sheet_hasWord_13 v0 v1 v3 v4 n = itc (nb_Sheet_hasWord_13 v0 v1 v3 v4 n) (fun s => NL_Sheet_hasWord_13 v0 v1 v3 s n) := it_eq2 (fun s : Int => nb_Sheet_hasWord_13 v0 v1 v3 s n) (v4)
noncomputable def nk_Sheet_hasWord_67 (v0 : Int) (v1 : Int) (v4 : Int) (n : NS) : Option ((Int) ⊕ ((Unit) ⊕ (Unit))) :=
  ck (v4 + 1) <|
  some (.inl (v4 + 1))
theorem fk_Sheet_hasWord_67 {w y : Prop} {g : g_S} {n : NS} {m : YS} (hw : w) {xv0 : Nat} {v0 : Int} (ev0 : xv0 = aBy v0) (rv0 : 0 ≤ v0 ∧ v0 ≤ 631) {xv1 : Int64} {v1 : Int} (ev1 : xv1 = Int64.ofInt v1) (rv1 : inL v1) {xv4 : Int32} {v4 : Int} (ev4 : xv4 = Int32.ofInt v4) (rv4 : inR v4) (hR : RC w y g n m) : Rf (RS (fun a b => RI a b) (RS (fun _ _ => True) (fun _ _ => True))) (k_Sheet_hasWord_67 xv0 xv1 xv4 g) (nk_Sheet_hasWord_67 v0 v1 v4 n) := by
  subst ev0
  subst ev1
  subst ev4
  unfold k_Sheet_hasWord_67 nk_Sheet_hasWord_67
  refine rf_ck (fun h1 => ?_)
  exact rf_ok (by exact ⟨(e_add rfl (e_n 1)), h1⟩)
noncomputable def nk_Sheet_hasWord_41 (v0 : Int) (v1 : Int) (v3 : Int) (v4 : Int) (n : NS) : Option ((Int) ⊕ ((Unit) ⊕ (Unit))) :=
  ck (v4 - v3) <|
  if 8 < (v4 - v3) then
    nk_Sheet_hasWord_67 v0 v1 v4 n
  else
    nn (n 4 v0 1) <|
    (N_Bytes_pack (n 4 v0 1) v3 v4 n).bind fun z5 =>
    if z5 = v1 then
      some (.inr (.inl ()))
    else
      nk_Sheet_hasWord_67 v0 v1 v4 n
theorem fk_Sheet_hasWord_41 {w y : Prop} {g : g_S} {n : NS} {m : YS} (hw : w) {xv0 : Nat} {v0 : Int} (ev0 : xv0 = aBy v0) (rv0 : 0 ≤ v0 ∧ v0 ≤ 631) {xv1 : Int64} {v1 : Int} (ev1 : xv1 = Int64.ofInt v1) (rv1 : inL v1) {xv3 : Int32} {v3 : Int} (ev3 : xv3 = Int32.ofInt v3) (rv3 : inR v3) {xv4 : Int32} {v4 : Int} (ev4 : xv4 = Int32.ofInt v4) (rv4 : inR v4) (hR : RC w y g n m) : Rf (RS (fun a b => RI a b) (RS (fun _ _ => True) (fun _ _ => True))) (k_Sheet_hasWord_41 xv0 xv1 xv3 xv4 g) (nk_Sheet_hasWord_41 v0 v1 v3 v4 n) := by
  subst ev0
  subst ev1
  subst ev3
  subst ev4
  unfold k_Sheet_hasWord_41 nk_Sheet_hasWord_41
  refine rf_ck (fun h1 => ?_)
  refine rf_lt (e_n 8) (e_sub rfl rfl) (show inR 8 by decide) h1 ?_ ?_
  · exact fk_Sheet_hasWord_67 hw rfl rv0 rfl rv1 rfl rv4 hR
  · refine c_D (s := 1) hR (ce_by hR hw rv0) rfl rfl rfl (fun h3 => ?_)
    refine rf_bind (f_Bytes_pack rfl h3 rfl rv3 rfl rv4 hR) (fun a7 z5 h => ?_)
    obtain ⟨rfl, r6⟩ := h
    refine rf_leq rfl rfl r6 rv1 ?_ ?_
    · exact rf_ok (by exact trivial)
    · exact fk_Sheet_hasWord_67 hw rfl rv0 rfl rv1 rfl rv4 hR
noncomputable def nb_Sheet_hasWord_2 (v0 : Int) (v1 : Int) (v3 : Int) (n : NS) : Option ((Int) ⊕ ((Unit) ⊕ (Unit))) :=
  if v3 < (n 4 v0 2) then
    (NL_Sheet_hasWord_13 v0 v1 v3 v3 n).bind <| fun z3 =>
    nk_Sheet_hasWord_41 v0 v1 v3 z3 n
  else
    some (.inr (.inr ()))
theorem fb_Sheet_hasWord_2 {w y : Prop} {g : g_S} {n : NS} {m : YS} (hw : w) {xv0 : Nat} {v0 : Int} (ev0 : xv0 = aBy v0) (rv0 : 0 ≤ v0 ∧ v0 ≤ 631) {xv1 : Int64} {v1 : Int} (ev1 : xv1 = Int64.ofInt v1) (rv1 : inL v1) {xv3 : Int32} {v3 : Int} (ev3 : xv3 = Int32.ofInt v3) (rv3 : inR v3) (hR : RC w y g n m) : Rf (RS (fun a b => RI a b) (RS (fun _ _ => True) (fun _ _ => True))) (b_Sheet_hasWord_2 xv0 xv1 xv3 g) (nb_Sheet_hasWord_2 v0 v1 v3 n) := by
  subst ev0
  subst ev1
  subst ev3
  unfold b_Sheet_hasWord_2 nb_Sheet_hasWord_2
  refine c_I (s := 2) hR (ce_by hR hw rv0) rfl rfl (fun h1 => ?_)
  refine rf_lt rfl rfl rv3 h1 ?_ ?_
  · refine rf_bind (fL_Sheet_hasWord_13 hw rfl rv0 rfl rv1 rfl rv3 rfl rv3 hR) (fun a4 z3 h => ?_)
    obtain ⟨rfl, r5⟩ := (show RI a4 z3 from h)
    exact fk_Sheet_hasWord_41 hw rfl rv0 rfl rv1 rfl rv3 rfl r5 hR
  · exact rf_ok (by exact trivial)
noncomputable def NL_Sheet_hasWord_2 (v0 : Int) (v1 : Int) (v3 : Int) (n : NS) : Option ((Unit) ⊕ (Unit)) :=
  it (fun s : Int => nb_Sheet_hasWord_2 v0 v1 s n) (v3)
theorem fL_Sheet_hasWord_2 {w y : Prop} {g : g_S} {n : NS} {m : YS} (hw : w) {xv0 : Nat} {v0 : Int} (ev0 : xv0 = aBy v0) (rv0 : 0 ≤ v0 ∧ v0 ≤ 631) {xv1 : Int64} {v1 : Int} (ev1 : xv1 = Int64.ofInt v1) (rv1 : inL v1) {xv3 : Int32} {v3 : Int} (ev3 : xv3 = Int32.ofInt v3) (rv3 : inR v3) (hR : RC w y g n m) : Rf (RS (fun _ _ => True) (fun _ _ => True)) (L_Sheet_hasWord_2 xv0 xv1 xv3 g) (NL_Sheet_hasWord_2 v0 v1 v3 n) := by
  subst ev0
  subst ev1
  subst ev3
  unfold L_Sheet_hasWord_2 NL_Sheet_hasWord_2
  refine rf_it (I := (fun a b => RI a b)) (fun s t h => ?_) ⟨rfl, rv3⟩
  exact fb_Sheet_hasWord_2 hw rfl rv0 rfl rv1 h.1 h.2 hR
theorem NL_Sheet_hasWord_2_eq (v0 : Int) (v1 : Int) (v3 : Int) (n : NS) : NL_Sheet_hasWord_2 v0 v1 v3 n = itc (nb_Sheet_hasWord_2 v0 v1 v3 n) (fun s => NL_Sheet_hasWord_2 v0 v1 s n) := it_eq2 (fun s : Int => nb_Sheet_hasWord_2 v0 v1 s n) (v3)
noncomputable def N_Sheet_hasWord (v0 : Int) (v1 : Int) (n : NS) : Option (Int) :=
  (NL_Sheet_hasWord_2 v0 v1 0 n).bind <|
    us (fun _ =>
    some 1)
    (fun _ =>
    some 0)
theorem f_Sheet_hasWord {w y : Prop} {g : g_S} {n : NS} {m : YS} (hw : w) {xv0 : Nat} {v0 : Int} (ev0 : xv0 = aBy v0) (rv0 : 0 ≤ v0 ∧ v0 ≤ 631) {xv1 : Int64} {v1 : Int} (ev1 : xv1 = Int64.ofInt v1) (rv1 : inL v1) (hR : RC w y g n m) : Rf (fun a b => RZ a b) (M_Sheet_hasWord xv0 xv1 g) (N_Sheet_hasWord v0 v1 n) := by
  subst ev0
  subst ev1
  unfold M_Sheet_hasWord N_Sheet_hasWord
  refine rf_bind (fL_Sheet_hasWord_2 hw rfl rv0 rfl rv1 (e_n 0) (show inR 0 by decide) hR) (fun a b h => rf_us h (fun a b h => ?_) (fun a b h => ?_))
  · exact rf_ok (by exact ⟨(e_n 1), (.inr rfl)⟩)
  · exact rf_ok (by exact ⟨(e_n 0), (.inl rfl)⟩)
noncomputable def nk_Sheet_isPartMatch_66 (v1 : Int) (v2 : Int) (v3 : Int) (w0 : Int) (w1 : Int) (n : NS) : Option ((Int) ⊕ ((Unit) ⊕ (Unit) ⊕ (Unit) ⊕ (Unit))) :=
  (N_Node_find w1 w0 n).bind fun z2 =>
  if z2 < 0 then
    some (.inr (.inl ()))
  else
    ix v3 492 <|
    if (n 38 0 v3) = 0 then
      ix v3 492 <|
      (N_Sheet_hasWord z2 (n 37 0 v3) n).bind fun z15 =>
      if z15 = 0 then
        some (.inr (.inr (.inr (.inl ()))))
      else
        ck (v3 + 1) <|
        some (.inl (v3 + 1))
    else
      (N_Bytes_packed z2 n).bind fun z21 =>
      ix v3 492 <|
      if z21 = (n 37 0 v3) then
        ck (v3 + 1) <|
        some (.inl (v3 + 1))
      else
        some (.inr (.inr (.inl ())))
theorem fk_Sheet_isPartMatch_66 {w y : Prop} {g : g_S} {n : NS} {m : YS} (hw : w) {xv1 : Int32} {v1 : Int} (ev1 : xv1 = Int32.ofInt v1) (rv1 : inR v1) {xv2 : Nat} {v2 : Int} (ev2 : xv2 = aNd v2) (rv2 : 0 ≤ v2 ∧ v2 ≤ 120) {xv3 : Int32} {v3 : Int} (ev3 : xv3 = Int32.ofInt v3) (rv3 : inR v3) {xw0 : Int64} {w0 : Int} (ew0 : xw0 = Int64.ofInt w0) (rw0 : inL w0) {xw1 : Nat} {w1 : Int} (ew1 : xw1 = aNd w1) (rw1 : 0 ≤ w1 ∧ w1 ≤ 120) (hR : RC w y g n m) : Rf (RS (fun a b => RI a b) (RS (fun _ _ => True) (RS (fun _ _ => True) (RS (fun _ _ => True) (fun _ _ => True))))) (k_Sheet_isPartMatch_66 1650 xv1 xv2 xv3 xw0 xw1 g) (nk_Sheet_isPartMatch_66 v1 v2 v3 w0 w1 n) := by
  subst ev1
  subst ev2
  subst ev3
  subst ew0
  subst ew1
  unfold k_Sheet_isPartMatch_66 nk_Sheet_isPartMatch_66
  refine v_c (ce_nd hR hw rw1).1 ?_
  refine rf_bind (f_Node_find hw rfl rw1 rfl rw0 hR) (fun a4 z2 h => ?_)
  obtain ⟨rfl, r3⟩ := h
  refine rf_oy (fun h5 => ?_) (fun h5 => ?_)
  · refine c_S hR hw (sK9 hR hw) (by decide) (show srf 9 0 7 = some 1657 from rfl) ?_
    refine s_Z (L := 492) hR (sA38 hR hw) rfl (lA38 hR hw) rfl rfl rv3 (fun h8 h9 => ?_)
    refine rf_eq rfl (e_n 0) (inZ.r h9) (show inR 0 by decide) ?_ ?_
    · refine c_S hR hw (sK9 hR hw) (by decide) (show srf 9 0 6 = some 1656 from rfl) ?_
      refine s_L (L := 492) hR (sA37 hR hw) (lA37 hR hw) rfl rfl rv3 (fun h12 h13 => ?_)
      refine rf_bind (f_Sheet_hasWord hw rfl (And.intro h5 r3) rfl h13 hR) (fun a17 z15 h => ?_)
      obtain ⟨rfl, r16⟩ := h
      refine rf_eq rfl (e_n 0) (inZ.r r16) (show inR 0 by decide) ?_ ?_
      · exact rf_ok (by exact trivial)
      · refine rf_ck (fun h19 => ?_)
        exact rf_ok (by exact ⟨(e_add rfl (e_n 1)), h19⟩)
    · refine v_c (ce_by hR hw (And.intro h5 r3)).1 ?_
      refine rf_bind (f_Bytes_packed hw rfl (And.intro h5 r3) hR) (fun a23 z21 h => ?_)
      obtain ⟨rfl, r22⟩ := h
      refine c_S hR hw (sK9 hR hw) (by decide) (show srf 9 0 6 = some 1656 from rfl) ?_
      refine s_L (L := 492) hR (sA37 hR hw) (lA37 hR hw) rfl rfl rv3 (fun h25 h26 => ?_)
      refine rf_leq rfl rfl r22 h26 ?_ ?_
      · refine rf_ck (fun h28 => ?_)
        exact rf_ok (by exact ⟨(e_add rfl (e_n 1)), h28⟩)
      · exact rf_ok (by exact trivial)
  · exact rf_ok (by exact trivial)
noncomputable def nb_Sheet_isPartMatch_31 (v1 : Int) (v2 : Int) (v3 : Int) (n : NS) : Option ((Int) ⊕ ((Unit) ⊕ (Unit) ⊕ (Unit) ⊕ (Unit))) :=
  ck (v1 * 4) <|
  ix v1 123 <|
  ck ((v1 * 4) + (n 36 0 v1)) <|
  if v3 < ((v1 * 4) + (n 36 0 v1)) then
    ix v3 492 <|
    if (n 38 0 v3) = 0 then
      nk_Sheet_isPartMatch_66 v1 v2 v3 (n 9 0 12) v2 n
    else
      nk_Sheet_isPartMatch_66 v1 v2 v3 (n 9 0 11) v2 n
  else
    some (.inr (.inr (.inr (.inr ()))))
theorem fb_Sheet_isPartMatch_31 {w y : Prop} {g : g_S} {n : NS} {m : YS} (hw : w) {xv1 : Int32} {v1 : Int} (ev1 : xv1 = Int32.ofInt v1) (rv1 : inR v1) {xv2 : Nat} {v2 : Int} (ev2 : xv2 = aNd v2) (rv2 : 0 ≤ v2 ∧ v2 ≤ 120) {xv3 : Int32} {v3 : Int} (ev3 : xv3 = Int32.ofInt v3) (rv3 : inR v3) (hR : RC w y g n m) : Rf (RS (fun a b => RI a b) (RS (fun _ _ => True) (RS (fun _ _ => True) (RS (fun _ _ => True) (fun _ _ => True))))) (b_Sheet_isPartMatch_31 1650 xv1 xv2 xv3 g) (nb_Sheet_isPartMatch_31 v1 v2 v3 n) := by
  subst ev1
  subst ev2
  subst ev3
  unfold b_Sheet_isPartMatch_31 nb_Sheet_isPartMatch_31
  refine rf_ck (fun h1 => ?_)
  refine c_S hR hw (sK9 hR hw) (by decide) (show srf 9 0 5 = some 1655 from rfl) ?_
  refine s_I (L := 123) hR (sA36 hR hw) rfl (lA36 hR hw) rfl rfl rv1 (fun h3 h4 => ?_)
  refine rf_ck (fun h5 => ?_)
  refine rf_lt rfl (e_add (e_mul rfl (e_n 4)) rfl) rv3 h5 ?_ ?_
  · refine c_S hR hw (sK9 hR hw) (by decide) (show srf 9 0 7 = some 1657 from rfl) ?_
    refine s_Z (L := 492) hR (sA38 hR hw) rfl (lA38 hR hw) rfl rfl rv3 (fun h8 h9 => ?_)
    refine rf_eq rfl (e_n 0) (inZ.r h9) (show inR 0 by decide) ?_ ?_
    · refine c_L (s := 12) hR (sK9 hR hw) rfl rfl (fun h11 => ?_)
      exact fk_Sheet_isPartMatch_66 hw rfl rv1 rfl rv2 rfl rv3 rfl h11 rfl rv2 hR
    · refine c_L (s := 11) hR (sK9 hR hw) rfl rfl (fun h12 => ?_)
      exact fk_Sheet_isPartMatch_66 hw rfl rv1 rfl rv2 rfl rv3 rfl h12 rfl rv2 hR
  · exact rf_ok (by exact trivial)
noncomputable def NL_Sheet_isPartMatch_31 (v1 : Int) (v2 : Int) (v3 : Int) (n : NS) : Option ((Unit) ⊕ (Unit) ⊕ (Unit) ⊕ (Unit)) :=
  it (fun s : Int => nb_Sheet_isPartMatch_31 v1 v2 s n) (v3)
theorem fL_Sheet_isPartMatch_31 {w y : Prop} {g : g_S} {n : NS} {m : YS} (hw : w) {xv1 : Int32} {v1 : Int} (ev1 : xv1 = Int32.ofInt v1) (rv1 : inR v1) {xv2 : Nat} {v2 : Int} (ev2 : xv2 = aNd v2) (rv2 : 0 ≤ v2 ∧ v2 ≤ 120) {xv3 : Int32} {v3 : Int} (ev3 : xv3 = Int32.ofInt v3) (rv3 : inR v3) (hR : RC w y g n m) : Rf (RS (fun _ _ => True) (RS (fun _ _ => True) (RS (fun _ _ => True) (fun _ _ => True)))) (L_Sheet_isPartMatch_31 1650 xv1 xv2 xv3 g) (NL_Sheet_isPartMatch_31 v1 v2 v3 n) := by
  subst ev1
  subst ev2
  subst ev3
  unfold L_Sheet_isPartMatch_31 NL_Sheet_isPartMatch_31
  refine rf_it (I := (fun a b => RI a b)) (fun s t h => ?_) ⟨rfl, rv3⟩
  exact fb_Sheet_isPartMatch_31 hw rfl rv1 rfl rv2 h.1 h.2 hR
theorem NL_Sheet_isPartMatch_31_eq (v1 : Int) (v2 : Int) (v3 : Int) (n : NS) : NL_Sheet_isPartMatch_31 v1 v2 v3 n = itc (nb_Sheet_isPartMatch_31 v1 v2 v3 n) (fun s => NL_Sheet_isPartMatch_31 v1 v2 s n) := it_eq2 (fun s : Int => nb_Sheet_isPartMatch_31 v1 v2 s n) (v3)
noncomputable def nk_Sheet_isPartMatch_27 (v1 : Int) (v2 : Int) (n : NS) : Option (Int) :=
  ck (v1 * 4) <|
  (NL_Sheet_isPartMatch_31 v1 v2 (v1 * 4) n).bind <|
    us (fun _ =>
    some 0)
    (us (fun _ =>
    some 0)
    (us (fun _ =>
    some 0)
    (fun _ =>
    some 1)))
theorem fk_Sheet_isPartMatch_27 {w y : Prop} {g : g_S} {n : NS} {m : YS} (hw : w) {xv1 : Int32} {v1 : Int} (ev1 : xv1 = Int32.ofInt v1) (rv1 : inR v1) {xv2 : Nat} {v2 : Int} (ev2 : xv2 = aNd v2) (rv2 : 0 ≤ v2 ∧ v2 ≤ 120) (hR : RC w y g n m) : Rf (fun a b => RZ a b) (k_Sheet_isPartMatch_27 1650 xv1 xv2 g) (nk_Sheet_isPartMatch_27 v1 v2 n) := by
  subst ev1
  subst ev2
  unfold k_Sheet_isPartMatch_27 nk_Sheet_isPartMatch_27
  refine rf_ck (fun h1 => ?_)
  refine rf_bind (fL_Sheet_isPartMatch_31 hw rfl rv1 rfl rv2 (e_mul rfl (e_n 4)) h1 hR) (fun a b h => rf_us h (fun a b h => ?_) (fun a b h => rf_us h (fun a b h => ?_) (fun a b h => rf_us h (fun a b h => ?_) (fun a b h => ?_))))
  · exact rf_ok (by exact ⟨(e_n 0), (.inl rfl)⟩)
  · exact rf_ok (by exact ⟨(e_n 0), (.inl rfl)⟩)
  · exact rf_ok (by exact ⟨(e_n 0), (.inl rfl)⟩)
  · exact rf_ok (by exact ⟨(e_n 1), (.inr rfl)⟩)
noncomputable def N_Sheet_isPartMatch (v1 : Int) (v2 : Int) (n : NS) : Option (Int) :=
  ix v1 123 <|
  if (n 35 0 v1) = 0 then
    nk_Sheet_isPartMatch_27 v1 v2 n
  else
    ix v1 123 <|
    if (n 35 0 v1) = (n 7 v2 1) then
      nk_Sheet_isPartMatch_27 v1 v2 n
    else
      some 0
theorem f_Sheet_isPartMatch {w y : Prop} {g : g_S} {n : NS} {m : YS} (hw : w) {xv1 : Int32} {v1 : Int} (ev1 : xv1 = Int32.ofInt v1) (rv1 : inR v1) {xv2 : Nat} {v2 : Int} (ev2 : xv2 = aNd v2) (rv2 : 0 ≤ v2 ∧ v2 ≤ 120) (hR : RC w y g n m) : Rf (fun a b => RZ a b) (M_Sheet_isPartMatch 1650 xv1 xv2 g) (N_Sheet_isPartMatch v1 v2 n) := by
  subst ev1
  subst ev2
  unfold M_Sheet_isPartMatch N_Sheet_isPartMatch
  refine c_S hR hw (sK9 hR hw) (by decide) (show srf 9 0 4 = some 1654 from rfl) ?_
  refine s_L (L := 123) hR (sA35 hR hw) (lA35 hR hw) rfl rfl rv1 (fun h2 h3 => ?_)
  refine rf_leq rfl (f_n 0) h3 (show inL 0 by decide) ?_ ?_
  · exact fk_Sheet_isPartMatch_27 hw rfl rv1 rfl rv2 hR
  · refine c_S hR hw (sK9 hR hw) (by decide) (show srf 9 0 4 = some 1654 from rfl) ?_
    refine s_L (L := 123) hR (sA35 hR hw) (lA35 hR hw) rfl rfl rv1 (fun h6 h7 => ?_)
    refine c_L (s := 1) hR (ce_nd hR hw rv2) rfl rfl (fun h8 => ?_)
    refine rf_leq rfl rfl h7 h8 ?_ ?_
    · exact fk_Sheet_isPartMatch_27 hw rfl rv1 rfl rv2 hR
    · exact rf_ok (by exact ⟨(e_n 0), (.inl rfl)⟩)
noncomputable def nk_Sheet_isMatch_83 (v1 : Int) (v3 : Int) (v4 : Int) (n : NS) : Option ((Int × Int) ⊕ (Int)) :=
  ix v4 120 <|
  some (.inl (v3, (n 7 v4 2)))
theorem fk_Sheet_isMatch_83 {w y : Prop} {g : g_S} {n : NS} {m : YS} (hw : w) {xv1 : Int32} {v1 : Int} (ev1 : xv1 = Int32.ofInt v1) (rv1 : inR v1) {xv3 : Int32} {v3 : Int} (ev3 : xv3 = Int32.ofInt v3) (rv3 : inR v3) {xv4 : Int32} {v4 : Int} (ev4 : xv4 = Int32.ofInt v4) (rv4 : inR v4) (hR : RC w y g n m) : Rf (RS (fun a b => RI a.1 b.1 ∧ RI a.2 b.2) (fun a b => RI a b)) (k_Sheet_isMatch_83 1650 xv1 xv3 xv4 g) (nk_Sheet_isMatch_83 v1 v3 v4 n) := by
  subst ev1
  subst ev3
  subst ev4
  unfold k_Sheet_isMatch_83 nk_Sheet_isMatch_83
  refine c_S hR hw (sK9 hR hw) (by decide) (show srf 9 0 0 = some 5 from rfl) ?_
  refine c_S hR hw (sK10 hR hw) (by decide) (show srf 10 0 0 = some 6 from rfl) ?_
  refine s_S (p := aNd (_)) (L := 120) hR hw (sA20 hR hw) (by decide) (lA20 hR hw) rfl rfl rv4 (fun z1 z2 => srf20 z1 z2) (fun h3 => ?_)
  refine c_I (s := 2) hR (ce_nd hR hw (And.intro h3.1 (Int.le_of_lt h3.2))) rfl rfl (fun h5 => ?_)
  exact rf_ok (by exact ⟨⟨rfl, rv3⟩, ⟨rfl, h5⟩⟩)
noncomputable def nb_Sheet_isMatch_49 (v1 : Int) (v3 : Int) (v4 : Int) (n : NS) : Option ((Int × Int) ⊕ (Int)) :=
  if v4 = (-1) then
    some (.inr v3)
  else
    ck (v1 * 3) <|
    if v3 < (v1 * 3) then
      some (.inr v3)
    else
      ix v4 120 <|
      (N_Sheet_isPartMatch v3 v4 n).bind fun z9 =>
      if z9 = 0 then
        nk_Sheet_isMatch_83 v1 v3 v4 n
      else
        ck (v3 + (-1)) <|
        nk_Sheet_isMatch_83 v1 (v3 + (-1)) v4 n
theorem fb_Sheet_isMatch_49 {w y : Prop} {g : g_S} {n : NS} {m : YS} (hw : w) {xv1 : Int32} {v1 : Int} (ev1 : xv1 = Int32.ofInt v1) (rv1 : inR v1) {xv3 : Int32} {v3 : Int} (ev3 : xv3 = Int32.ofInt v3) (rv3 : inR v3) {xv4 : Int32} {v4 : Int} (ev4 : xv4 = Int32.ofInt v4) (rv4 : inR v4) (hR : RC w y g n m) : Rf (RS (fun a b => RI a.1 b.1 ∧ RI a.2 b.2) (fun a b => RI a b)) (b_Sheet_isMatch_49 1650 xv1 xv3 xv4 g) (nb_Sheet_isMatch_49 v1 v3 v4 n) := by
  subst ev1
  subst ev3
  subst ev4
  unfold b_Sheet_isMatch_49 nb_Sheet_isMatch_49
  refine rf_eq rfl (e_m 1) rv4 (show inR (-1) by decide) ?_ ?_
  · exact rf_ok (by exact ⟨rfl, rv3⟩)
  · refine rf_ck (fun h2 => ?_)
    refine rf_lt rfl (e_mul rfl (e_n 3)) rv3 h2 ?_ ?_
    · exact rf_ok (by exact ⟨rfl, rv3⟩)
    · refine c_S hR hw (sK9 hR hw) (by decide) (show srf 9 0 0 = some 5 from rfl) ?_
      refine c_S hR hw (sK10 hR hw) (by decide) (show srf 10 0 0 = some 6 from rfl) ?_
      refine s_S (p := aNd (_)) (L := 120) hR hw (sA20 hR hw) (by decide) (lA20 hR hw) rfl rfl rv4 (fun z1 z2 => srf20 z1 z2) (fun h6 => ?_)
      refine v_c (sK9 hR hw).1 ?_
      refine rf_bind (f_Sheet_isPartMatch hw rfl rv3 rfl (And.intro h6.1 (Int.le_of_lt h6.2)) hR) (fun a11 z9 h => ?_)
      obtain ⟨rfl, r10⟩ := h
      refine rf_eq rfl (e_n 0) (inZ.r r10) (show inR 0 by decide) ?_ ?_
      · exact fk_Sheet_isMatch_83 hw rfl rv1 rfl rv3 rfl rv4 hR
      · refine rf_ck (fun h13 => ?_)
        exact fk_Sheet_isMatch_83 hw rfl rv1 (e_add rfl (e_m 1)) h13 rfl rv4 hR
noncomputable def NL_Sheet_isMatch_49 (v1 : Int) (v3 : Int) (v4 : Int) (n : NS) : Option (Int) :=
  it (fun s : Int × Int => nb_Sheet_isMatch_49 v1 s.1 s.2 n) (v3, v4)
theorem fL_Sheet_isMatch_49 {w y : Prop} {g : g_S} {n : NS} {m : YS} (hw : w) {xv1 : Int32} {v1 : Int} (ev1 : xv1 = Int32.ofInt v1) (rv1 : inR v1) {xv3 : Int32} {v3 : Int} (ev3 : xv3 = Int32.ofInt v3) (rv3 : inR v3) {xv4 : Int32} {v4 : Int} (ev4 : xv4 = Int32.ofInt v4) (rv4 : inR v4) (hR : RC w y g n m) : Rf (fun a b => RI a b) (L_Sheet_isMatch_49 1650 xv1 xv3 xv4 g) (NL_Sheet_isMatch_49 v1 v3 v4 n) := by
  subst ev1
  subst ev3
  subst ev4
  unfold L_Sheet_isMatch_49 NL_Sheet_isMatch_49
  refine rf_it (I := (fun a b => RI a.1 b.1 ∧ RI a.2 b.2)) (fun s t h => ?_) ⟨⟨rfl, rv3⟩, ⟨rfl, rv4⟩⟩
  exact fb_Sheet_isMatch_49 hw rfl rv1 h.1.1 h.1.2 h.2.1 h.2.2 hR
theorem NL_Sheet_isMatch_49_eq (v1 : Int) (v3 : Int) (v4 : Int) (n : NS) : NL_Sheet_isMatch_49 v1 v3 v4 n = itc (nb_Sheet_isMatch_49 v1 v3 v4 n) (fun s => NL_Sheet_isMatch_49 v1 s.1 s.2 n) := it_eq2 (fun s : Int × Int => nb_Sheet_isMatch_49 v1 s.1 s.2 n) (v3, v4)
noncomputable def nk_Sheet_isMatch_101 (v1 : Int) (v3 : Int) (n : NS) : Option (Int) :=
  ck (v1 * 3) <|
  if v3 < (v1 * 3) then
    some 1
  else
    some 0
theorem fk_Sheet_isMatch_101 {w y : Prop} {g : g_S} {n : NS} {m : YS} (hw : w) {xv1 : Int32} {v1 : Int} (ev1 : xv1 = Int32.ofInt v1) (rv1 : inR v1) {xv3 : Int32} {v3 : Int} (ev3 : xv3 = Int32.ofInt v3) (rv3 : inR v3) (hR : RC w y g n m) : Rf (fun a b => RZ a b) (k_Sheet_isMatch_101 xv1 xv3 g) (nk_Sheet_isMatch_101 v1 v3 n) := by
  subst ev1
  subst ev3
  unfold k_Sheet_isMatch_101 nk_Sheet_isMatch_101
  refine rf_ck (fun h1 => ?_)
  refine rf_lt rfl (e_mul rfl (e_n 3)) rv3 h1 ?_ ?_
  · exact rf_ok (by exact ⟨(e_n 1), (.inr rfl)⟩)
  · exact rf_ok (by exact ⟨(e_n 0), (.inl rfl)⟩)
noncomputable def N_Sheet_isMatch (v1 : Int) (v2 : Int) (n : NS) : Option (Int) :=
  ck (v1 * 3) <|
  ix v1 41 <|
  ck ((v1 * 3) + (n 32 0 v1)) <|
  ck (((v1 * 3) + (n 32 0 v1)) - 1) <|
  ix v2 120 <|
  (N_Sheet_isPartMatch (((v1 * 3) + (n 32 0 v1)) - 1) v2 n).bind fun z12 =>
  if z12 = 0 then
    some 0
  else
    ck ((((v1 * 3) + (n 32 0 v1)) - 1) + (-1)) <|
    ix v2 120 <|
    (NL_Sheet_isMatch_49 v1 ((((v1 * 3) + (n 32 0 v1)) - 1) + (-1)) (n 7 v2 2) n).bind <| fun z23 =>
    nk_Sheet_isMatch_101 v1 z23 n
theorem f_Sheet_isMatch {w y : Prop} {g : g_S} {n : NS} {m : YS} (hw : w) {xv1 : Int32} {v1 : Int} (ev1 : xv1 = Int32.ofInt v1) (rv1 : inR v1) {xv2 : Int32} {v2 : Int} (ev2 : xv2 = Int32.ofInt v2) (rv2 : inR v2) (hR : RC w y g n m) : Rf (fun a b => RZ a b) (M_Sheet_isMatch 1650 xv1 xv2 g) (N_Sheet_isMatch v1 v2 n) := by
  subst ev1
  subst ev2
  unfold M_Sheet_isMatch N_Sheet_isMatch
  refine rf_ck (fun h1 => ?_)
  refine c_S hR hw (sK9 hR hw) (by decide) (show srf 9 0 1 = some 1651 from rfl) ?_
  refine s_I (L := 41) hR (sA32 hR hw) rfl (lA32 hR hw) rfl rfl rv1 (fun h3 h4 => ?_)
  refine rf_ck (fun h5 => ?_)
  refine rf_ck (fun h6 => ?_)
  refine c_S hR hw (sK9 hR hw) (by decide) (show srf 9 0 0 = some 5 from rfl) ?_
  refine c_S hR hw (sK10 hR hw) (by decide) (show srf 10 0 0 = some 6 from rfl) ?_
  refine s_S (p := aNd (_)) (L := 120) hR hw (sA20 hR hw) (by decide) (lA20 hR hw) rfl rfl rv2 (fun z1 z2 => srf20 z1 z2) (fun h9 => ?_)
  refine v_c (sK9 hR hw).1 ?_
  refine rf_bind (f_Sheet_isPartMatch hw (e_sub (e_add (e_mul rfl (e_n 3)) rfl) (e_n 1)) h6 rfl (And.intro h9.1 (Int.le_of_lt h9.2)) hR) (fun a14 z12 h => ?_)
  obtain ⟨rfl, r13⟩ := h
  refine rf_eq rfl (e_n 0) (inZ.r r13) (show inR 0 by decide) ?_ ?_
  · exact rf_ok (by exact ⟨(e_n 0), (.inl rfl)⟩)
  · refine rf_ck (fun h17 => ?_)
    refine c_S hR hw (sK9 hR hw) (by decide) (show srf 9 0 0 = some 5 from rfl) ?_
    refine c_S hR hw (sK10 hR hw) (by decide) (show srf 10 0 0 = some 6 from rfl) ?_
    refine s_S (p := aNd (_)) (L := 120) hR hw (sA20 hR hw) (by decide) (lA20 hR hw) rfl rfl rv2 (fun z1 z2 => srf20 z1 z2) (fun h20 => ?_)
    refine c_I (s := 2) hR (ce_nd hR hw (And.intro h20.1 (Int.le_of_lt h20.2))) rfl rfl (fun h22 => ?_)
    refine rf_bind (fL_Sheet_isMatch_49 hw rfl rv1 (e_add (e_sub (e_add (e_mul rfl (e_n 3)) rfl) (e_n 1)) (e_m 1)) h17 rfl h22 hR) (fun a24 z23 h => ?_)
    obtain ⟨rfl, r25⟩ := (show RI a24 z23 from h)
    exact fk_Sheet_isMatch_101 hw rfl rv1 rfl r25 hR
noncomputable def nb_H_listMatches_14 (v1 : Int) (n : NS) : Option ((Int × NS) ⊕ (NS)) :=
  if v1 < (n 10 0 3) then
    ix v1 120 <|
    ix (n 22 0 v1) 120 <|
    if (n 7 (n 22 0 v1) 0) = 17 then
      ck (v1 + 1) <|
      some (.inl (v1 + 1, n))
    else
      (N_Sheet_isMatch 40 (n 22 0 v1) n).bind fun z17 =>
      if z17 = 0 then
        ck (v1 + 1) <|
        some (.inl (v1 + 1, n))
      else
        ix (n 11 0 9) 120 <|
        st (nw n 47 0 (n 11 0 9) (n 22 0 v1)) fun n25 =>
        ck ((n25 11 0 9) + 1) <|
        st (nw n25 11 0 9 ((n25 11 0 9) + 1)) fun n31 =>
        ck (v1 + 1) <|
        some (.inl (v1 + 1, n31))
  else
    some (.inr n)
theorem fb_H_listMatches_14 {w y : Prop} {g : g_S} {n : NS} {m : YS} (hw : w) {xv1 : Int32} {v1 : Int} (ev1 : xv1 = Int32.ofInt v1) (rv1 : inR v1) (hR : RC w y g n m) : Rf (RS (fun a b => RI a.1 b.1 ∧ RC w y a.2 b.2 m) (fun a b => RC w y a b m)) (b_H_listMatches_14 0 xv1 g) (nb_H_listMatches_14 v1 n) := by
  subst ev1
  unfold b_H_listMatches_14 nb_H_listMatches_14
  refine c_S hR hw (sK11 hR hw) (by decide) (show srf 11 0 2 = some 5 from rfl) ?_
  refine c_I (s := 3) hR (sK10 hR hw) rfl rfl (fun h2 => ?_)
  refine rf_lt rfl rfl rv1 h2 ?_ ?_
  · refine c_S hR hw (sK11 hR hw) (by decide) (show srf 11 0 2 = some 5 from rfl) ?_
    refine c_S hR hw (sK10 hR hw) (by decide) (show srf 10 0 2 = some 8 from rfl) ?_
    refine s_I (L := 120) hR (sA22 hR hw) rfl (lA22 hR hw) rfl rfl rv1 (fun h6 h7 => ?_)
    refine c_S hR hw (sK11 hR hw) (by decide) (show srf 11 0 2 = some 5 from rfl) ?_
    refine c_S hR hw (sK10 hR hw) (by decide) (show srf 10 0 0 = some 6 from rfl) ?_
    refine s_S (p := aNd (_)) (L := 120) hR hw (sA20 hR hw) (by decide) (lA20 hR hw) rfl rfl h7 (fun z1 z2 => srf20 z1 z2) (fun h10 => ?_)
    refine c_I (s := 0) hR (ce_nd hR hw (And.intro h10.1 (Int.le_of_lt h10.2))) rfl rfl (fun h12 => ?_)
    refine rf_eq rfl (e_n 17) h12 (show inR 17 by decide) ?_ ?_
    · refine rf_ck (fun h14 => ?_)
      exact rf_ok (by exact ⟨⟨(e_add rfl (e_n 1)), h14⟩, hR⟩)
    · refine c_S hR hw (sK11 hR hw) (by decide) (show srf 11 0 5 = some 1650 from rfl) ?_
      refine v_c (sK9 hR hw).1 ?_
      refine rf_bind (f_Sheet_isMatch hw (e_n 40) (show inR 40 by decide) rfl h7 hR) (fun a19 z17 h => ?_)
      obtain ⟨rfl, r18⟩ := h
      refine rf_eq rfl (e_n 0) (inZ.r r18) (show inR 0 by decide) ?_ ?_
      · refine rf_ck (fun h21 => ?_)
        exact rf_ok (by exact ⟨⟨(e_add rfl (e_n 1)), h21⟩, hR⟩)
      · refine c_S hR hw (sK11 hR hw) (by decide) (show srf 11 0 8 = some 1837 from rfl) ?_
        refine c_I (s := 9) hR (sK11 hR hw) rfl rfl (fun h23 => ?_)
        refine t_I (L := 120) hR (sA47 hR hw) (lA47 hR hw) rfl rfl h23 rfl h7 (fun g27 n25 hR26 => ?_)
        refine c_I (s := 9) hR26 (sK11 hR26 hw) rfl rfl (fun h28 => ?_)
        refine rf_ck (fun h29 => ?_)
        refine p_I (s := 9) hR26 (sK11 hR26 hw) rfl ⟨rfl, rfl, by decide⟩ (e_add rfl (e_n 1)) h29 (fun g33 n31 hR32 => ?_)
        refine rf_ck (fun h34 => ?_)
        exact rf_ok (by exact ⟨⟨(e_add rfl (e_n 1)), h34⟩, hR32⟩)
  · exact rf_ok (by exact hR)
noncomputable def NL_H_listMatches_14 (v1 : Int) (n : NS) : Option (NS) :=
  it (fun s : Int × NS => nb_H_listMatches_14 s.1 s.2) (v1, n)
theorem fL_H_listMatches_14 {w y : Prop} {g : g_S} {n : NS} {m : YS} (hw : w) {xv1 : Int32} {v1 : Int} (ev1 : xv1 = Int32.ofInt v1) (rv1 : inR v1) (hR : RC w y g n m) : Rf (fun a b => RC w y a b m) (L_H_listMatches_14 0 xv1 g) (NL_H_listMatches_14 v1 n) := by
  subst ev1
  unfold L_H_listMatches_14 NL_H_listMatches_14
  refine rf_it (I := (fun a b => RI a.1 b.1 ∧ RC w y a.2 b.2 m)) (fun s t h => ?_) ⟨⟨rfl, rv1⟩, hR⟩
  exact fb_H_listMatches_14 hw h.1.1 h.1.2 h.2
theorem NL_H_listMatches_14_eq (v1 : Int) (n : NS) : NL_H_listMatches_14 v1 n = itc (nb_H_listMatches_14 v1 n) (fun s => NL_H_listMatches_14 s.1 s.2) := it_eq2 (fun s : Int × NS => nb_H_listMatches_14 s.1 s.2) (v1, n)
noncomputable def N_H_listMatches (n : NS) : Option (Int × NS) :=
  st (nw n 11 0 9 0) fun n2 =>
  (N_Tree_list n2).bind fun n7 =>
  (NL_H_listMatches_14 0 n7).bind <| fun n10 =>
  some ((n10 11 0 9), n10)
theorem f_H_listMatches {w y : Prop} {g : g_S} {n : NS} {m : YS} (hw : w) (hR : RC w y g n m) : Rf (fun a b => RI a.1 b.1 ∧ RC w y a.2 b.2 m) (M_H_listMatches 0 g) (N_H_listMatches n) := by
  unfold M_H_listMatches N_H_listMatches
  refine p_I (s := 9) hR (sK11 hR hw) rfl ⟨rfl, rfl, by decide⟩ (e_n 0) (show inR 0 by decide) (fun g4 n2 hR3 => ?_)
  refine c_S hR3 hw (sK11 hR3 hw) (by decide) (show srf 11 0 2 = some 5 from rfl) ?_
  refine v_c (sK10 hR3 hw).1 ?_
  refine rf_bind (f_Tree_list hw hR3) (fun g9 n7 hR8 => ?_)
  refine rf_bind (fL_H_listMatches_14 hw (e_n 0) (show inR 0 by decide) hR8) (fun a11 n10 h => ?_)
  have hR12 : RC w y a11 n10 m := h
  refine c_I (s := 9) hR12 (sK11 hR12 hw) rfl rfl (fun h13 => ?_)
  exact rf_ok (by exact ⟨⟨rfl, h13⟩, hR12⟩)
noncomputable def nk_H_select_51 (v1 : Int) (n : NS) : Option (Int × NS) :=
  (N_Bytes_clear 605 n).bind fun n3 =>
  some (v1, n3)
theorem fk_H_select_51 {w y : Prop} {g : g_S} {n : NS} {m : YS} (hw : w) {xv1 : Int32} {v1 : Int} (ev1 : xv1 = Int32.ofInt v1) (rv1 : inR v1) (hR : RC w y g n m) : Rf (fun a b => RI a.1 b.1 ∧ RC w y a.2 b.2 m) (k_H_select_51 0 xv1 g) (nk_H_select_51 v1 n) := by
  subst ev1
  unfold k_H_select_51 nk_H_select_51
  refine c_S hR hw (sK11 hR hw) (by decide) (show srf 11 0 0 = some 1 from rfl) ?_
  refine v_c (bS605 ▸ (ce_by hR hw (by decide))).1 ?_
  refine rf_bind (f_Bytes_clear hw bS605.symm (by decide) hR) (fun g5 n3 hR4 => ?_)
  exact rf_ok (by exact ⟨⟨rfl, rv1⟩, hR4⟩)
noncomputable def nk_H_select_50 (w0 : Int) (n : NS) : Option (Int × NS) :=
  nk_H_select_51 w0 n
theorem fk_H_select_50 {w y : Prop} {g : g_S} {n : NS} {m : YS} (hw : w) {xw0 : Int32} {w0 : Int} (ew0 : xw0 = Int32.ofInt w0) (rw0 : inR w0) (hR : RC w y g n m) : Rf (fun a b => RI a.1 b.1 ∧ RC w y a.2 b.2 m) (k_H_select_50 0 xw0 g) (nk_H_select_50 w0 n) := by
  subst ew0
  unfold k_H_select_50 nk_H_select_50
  exact fk_H_select_51 hw rfl rw0 hR
noncomputable def N_H_select (n : NS) : Option (Int × NS) :=
  (N_H_wrongByte n).bind fun z2 =>
  if z2 = 0 then
    nn (n 4 605 1) <|
    (N_Sheet_readSelector (n 4 605 1) 0 (n 4 605 2) 40 n).bind <| u2 fun z12 n15 =>
    if z12 < 0 then
      (N_H_listMatches n15).bind <| u2 fun z20 n23 =>
      nk_H_select_50 z20 n23
    else
      ck ((-1000) - z12) <|
      nk_H_select_50 ((-1000) - z12) n15
  else
    nk_H_select_51 z2 n
theorem f_H_select {w y : Prop} {g : g_S} {n : NS} {m : YS} (hw : w) (hR : RC w y g n m) : Rf (fun a b => RI a.1 b.1 ∧ RC w y a.2 b.2 m) (M_H_select 0 g) (N_H_select n) := by
  unfold M_H_select N_H_select
  refine v_c (sK11 hR hw).1 ?_
  refine rf_bind (f_H_wrongByte hw hR) (fun a4 z2 h => ?_)
  obtain ⟨rfl, r3⟩ := h
  refine rf_eq rfl (e_n 0) r3 (show inR 0 by decide) ?_ ?_
  · refine c_S hR hw (sK11 hR hw) (by decide) (show srf 11 0 5 = some 1650 from rfl) ?_
    refine c_S hR hw (sK11 hR hw) (by decide) (show srf 11 0 0 = some 1 from rfl) ?_
    refine c_D (s := 1) hR (bS605 ▸ (ce_by hR hw (by decide))) rfl rfl rfl (fun h8 => ?_)
    refine c_S hR hw (sK11 hR hw) (by decide) (show srf 11 0 0 = some 1 from rfl) ?_
    refine c_I (s := 2) hR (bS605 ▸ (ce_by hR hw (by decide))) rfl rfl (fun h10 => ?_)
    refine v_c2 (sK9 hR hw).1 ?_
    refine rf_c2 (f_Sheet_readSelector hw rfl h8 (e_n 0) (show inR 0 by decide) rfl h10 (e_n 40) (show inR 40 by decide) hR) (fun a14 g17 b h => ?_)
    obtain ⟨z12, n15⟩ := b
    refine rf_v2 ?_
    obtain ⟨rfl, r13⟩ := (show RI a14 z12 from h.1)
    have hR16 : RC w y g17 n15 m := h.2
    refine rf_lt rfl (e_n 0) r13 (show inR 0 by decide) ?_ ?_
    · refine v_c2 (sK11 hR16 hw).1 ?_
      refine rf_c2 (f_H_listMatches hw hR16) (fun a22 g25 b h => ?_)
      obtain ⟨z20, n23⟩ := b
      refine rf_v2 ?_
      obtain ⟨rfl, r21⟩ := (show RI a22 z20 from h.1)
      have hR24 : RC w y g25 n23 m := h.2
      exact fk_H_select_50 hw rfl r21 hR24
    · refine rf_ck (fun h26 => ?_)
      exact fk_H_select_50 hw (e_sub (e_m 1000) rfl) h26 hR16
  · exact fk_H_select_51 hw rfl r3 hR
noncomputable def N_H_found (v1 : Int) (n : NS) : Option (Int) :=
  if v1 < 0 then
    some (-1)
  else
    if v1 < (n 11 0 9) then
      ix v1 120 <|
      some (n 47 0 v1)
    else
      some (-1)
theorem f_H_found {w y : Prop} {g : g_S} {n : NS} {m : YS} (hw : w) {xv1 : Int32} {v1 : Int} (ev1 : xv1 = Int32.ofInt v1) (rv1 : inR v1) (hR : RC w y g n m) : Rf (fun a b => RI a b) (M_H_found 0 xv1 g) (N_H_found v1 n) := by
  subst ev1
  unfold M_H_found N_H_found
  refine rf_lt rfl (e_n 0) rv1 (show inR 0 by decide) ?_ ?_
  · exact rf_ok (by exact ⟨(e_m 1), (show inR (-1) by decide)⟩)
  · refine c_I (s := 9) hR (sK11 hR hw) rfl rfl (fun h3 => ?_)
    refine rf_lt rfl rfl rv1 h3 ?_ ?_
    · refine c_S hR hw (sK11 hR hw) (by decide) (show srf 11 0 8 = some 1837 from rfl) ?_
      refine s_I (L := 120) hR (sA47 hR hw) rfl (lA47 hR hw) rfl rfl rv1 (fun h6 h7 => ?_)
      exact rf_ok (by exact ⟨rfl, h7⟩)
    · exact rf_ok (by exact ⟨(e_m 1), (show inR (-1) by decide)⟩)
noncomputable def nb_Sheet_indexOf_3 (v0 : Int) (v2 : Int) (v3 : Int) (v4 : Int) (n : NS) : Option ((Int) ⊕ (Int)) :=
  if v4 < v2 then
    dx n v0 1 v4 <|
    if (n 99 v0 v4) = v3 then
      some (.inr v4)
    else
      ck (v4 + 1) <|
      some (.inl (v4 + 1))
  else
    some (.inr v4)
theorem fb_Sheet_indexOf_3 {w y : Prop} {g : g_S} {n : NS} {m : YS} {xv0 : Nat} {v0 : Int} (ev0 : xv0 = Int.toNat v0) (rv0 : 0 ≤ v0 ∧ lc (Int.toNat v0) = (99, v0)) {xv2 : Int32} {v2 : Int} (ev2 : xv2 = Int32.ofInt v2) (rv2 : inR v2) {xv3 : Int32} {v3 : Int} (ev3 : xv3 = Int32.ofInt v3) (rv3 : inR v3) {xv4 : Int32} {v4 : Int} (ev4 : xv4 = Int32.ofInt v4) (rv4 : inR v4) (hR : RC w y g n m) : Rf (RS (fun a b => RI a b) (fun a b => RI a b)) (b_Sheet_indexOf_3 xv0 xv2 xv3 xv4 g) (nb_Sheet_indexOf_3 v0 v2 v3 v4 n) := by
  subst ev0
  subst ev2
  subst ev3
  subst ev4
  unfold b_Sheet_indexOf_3 nb_Sheet_indexOf_3
  refine rf_lt rfl rfl rv4 rv2 ?_ ?_
  · refine d_B hR rv0 rfl rv4 (fun h2 h3 => ?_)
    refine rf_eq rfl rfl (inB.r h3) rv3 ?_ ?_
    · exact rf_ok (by exact ⟨rfl, rv4⟩)
    · refine rf_ck (fun h5 => ?_)
      exact rf_ok (by exact ⟨(e_add rfl (e_n 1)), h5⟩)
  · exact rf_ok (by exact ⟨rfl, rv4⟩)
noncomputable def NL_Sheet_indexOf_3 (v0 : Int) (v2 : Int) (v3 : Int) (v4 : Int) (n : NS) : Option (Int) :=
  it (fun s : Int => nb_Sheet_indexOf_3 v0 v2 v3 s n) (v4)
theorem fL_Sheet_indexOf_3 {w y : Prop} {g : g_S} {n : NS} {m : YS} {xv0 : Nat} {v0 : Int} (ev0 : xv0 = Int.toNat v0) (rv0 : 0 ≤ v0 ∧ lc (Int.toNat v0) = (99, v0)) {xv2 : Int32} {v2 : Int} (ev2 : xv2 = Int32.ofInt v2) (rv2 : inR v2) {xv3 : Int32} {v3 : Int} (ev3 : xv3 = Int32.ofInt v3) (rv3 : inR v3) {xv4 : Int32} {v4 : Int} (ev4 : xv4 = Int32.ofInt v4) (rv4 : inR v4) (hR : RC w y g n m) : Rf (fun a b => RI a b) (L_Sheet_indexOf_3 xv0 xv2 xv3 xv4 g) (NL_Sheet_indexOf_3 v0 v2 v3 v4 n) := by
  subst ev0
  subst ev2
  subst ev3
  subst ev4
  unfold L_Sheet_indexOf_3 NL_Sheet_indexOf_3
  refine rf_it (I := (fun a b => RI a b)) (fun s t h => ?_) ⟨rfl, rv4⟩
  exact fb_Sheet_indexOf_3 rfl rv0 rfl rv2 rfl rv3 h.1 h.2 hR
theorem NL_Sheet_indexOf_3_eq (v0 : Int) (v2 : Int) (v3 : Int) (v4 : Int) (n : NS) : NL_Sheet_indexOf_3 v0 v2 v3 v4 n = itc (nb_Sheet_indexOf_3 v0 v2 v3 v4 n) (fun s => NL_Sheet_indexOf_3 v0 v2 v3 s n) := it_eq2 (fun s : Int => nb_Sheet_indexOf_3 v0 v2 v3 s n) (v4)
noncomputable def N_Sheet_indexOf (v0 : Int) (v1 : Int) (v2 : Int) (v3 : Int) (n : NS) : Option (Int) :=
  (NL_Sheet_indexOf_3 v0 v2 v3 v1 n).bind <| fun z1 =>
  some z1
theorem f_Sheet_indexOf {w y : Prop} {g : g_S} {n : NS} {m : YS} {xv0 : Nat} {v0 : Int} (ev0 : xv0 = Int.toNat v0) (rv0 : 0 ≤ v0 ∧ lc (Int.toNat v0) = (99, v0)) {xv1 : Int32} {v1 : Int} (ev1 : xv1 = Int32.ofInt v1) (rv1 : inR v1) {xv2 : Int32} {v2 : Int} (ev2 : xv2 = Int32.ofInt v2) (rv2 : inR v2) {xv3 : Int32} {v3 : Int} (ev3 : xv3 = Int32.ofInt v3) (rv3 : inR v3) (hR : RC w y g n m) : Rf (fun a b => RI a b) (M_Sheet_indexOf xv0 xv1 xv2 xv3 g) (N_Sheet_indexOf v0 v1 v2 v3 n) := by
  subst ev0
  subst ev1
  subst ev2
  subst ev3
  unfold M_Sheet_indexOf N_Sheet_indexOf
  refine rf_bind (fL_Sheet_indexOf_3 rfl rv0 rfl rv2 rfl rv3 rfl rv1 hR) (fun a2 z1 h => ?_)
  obtain ⟨rfl, r3⟩ := (show RI a2 z1 from h)
  exact rf_ok (by exact ⟨rfl, r3⟩)
noncomputable def nb_Sheet_trimBlanks_2 (v0 : Int) (v1 : Int) (v3 : Int) (n : NS) : Option ((Int) ⊕ (Int)) :=
  if v1 < v3 then
    ck (v3 - 1) <|
    dx n v0 1 (v3 - 1) <|
    (N_Bytes_isBlank (n 99 v0 (v3 - 1)) n).bind fun z6 =>
    if z6 = 0 then
      some (.inr v3)
    else
      ck (v3 + (-1)) <|
      some (.inl (v3 + (-1)))
  else
    some (.inr v3)
theorem fb_Sheet_trimBlanks_2 {w y : Prop} {g : g_S} {n : NS} {m : YS} {xv0 : Nat} {v0 : Int} (ev0 : xv0 = Int.toNat v0) (rv0 : 0 ≤ v0 ∧ lc (Int.toNat v0) = (99, v0)) {xv1 : Int32} {v1 : Int} (ev1 : xv1 = Int32.ofInt v1) (rv1 : inR v1) {xv3 : Int32} {v3 : Int} (ev3 : xv3 = Int32.ofInt v3) (rv3 : inR v3) (hR : RC w y g n m) : Rf (RS (fun a b => RI a b) (fun a b => RI a b)) (b_Sheet_trimBlanks_2 xv0 xv1 xv3 g) (nb_Sheet_trimBlanks_2 v0 v1 v3 n) := by
  subst ev0
  subst ev1
  subst ev3
  unfold b_Sheet_trimBlanks_2 nb_Sheet_trimBlanks_2
  refine rf_lt rfl rfl rv1 rv3 ?_ ?_
  · refine rf_ck (fun h2 => ?_)
    refine d_B hR rv0 (e_sub rfl (e_n 1)) h2 (fun h3 h4 => ?_)
    refine rf_bind (f_Bytes_isBlank rfl (inB.r h4) hR) (fun a8 z6 h => ?_)
    obtain ⟨rfl, r7⟩ := h
    refine rf_eq rfl (e_n 0) (inZ.r r7) (show inR 0 by decide) ?_ ?_
    · exact rf_ok (by exact ⟨rfl, rv3⟩)
    · refine rf_ck (fun h10 => ?_)
      exact rf_ok (by exact ⟨(e_add rfl (e_m 1)), h10⟩)
  · exact rf_ok (by exact ⟨rfl, rv3⟩)
noncomputable def NL_Sheet_trimBlanks_2 (v0 : Int) (v1 : Int) (v3 : Int) (n : NS) : Option (Int) :=
  it (fun s : Int => nb_Sheet_trimBlanks_2 v0 v1 s n) (v3)
theorem fL_Sheet_trimBlanks_2 {w y : Prop} {g : g_S} {n : NS} {m : YS} {xv0 : Nat} {v0 : Int} (ev0 : xv0 = Int.toNat v0) (rv0 : 0 ≤ v0 ∧ lc (Int.toNat v0) = (99, v0)) {xv1 : Int32} {v1 : Int} (ev1 : xv1 = Int32.ofInt v1) (rv1 : inR v1) {xv3 : Int32} {v3 : Int} (ev3 : xv3 = Int32.ofInt v3) (rv3 : inR v3) (hR : RC w y g n m) : Rf (fun a b => RI a b) (L_Sheet_trimBlanks_2 xv0 xv1 xv3 g) (NL_Sheet_trimBlanks_2 v0 v1 v3 n) := by
  subst ev0
  subst ev1
  subst ev3
  unfold L_Sheet_trimBlanks_2 NL_Sheet_trimBlanks_2
  refine rf_it (I := (fun a b => RI a b)) (fun s t h => ?_) ⟨rfl, rv3⟩
  exact fb_Sheet_trimBlanks_2 rfl rv0 rfl rv1 h.1 h.2 hR
theorem NL_Sheet_trimBlanks_2_eq (v0 : Int) (v1 : Int) (v3 : Int) (n : NS) : NL_Sheet_trimBlanks_2 v0 v1 v3 n = itc (nb_Sheet_trimBlanks_2 v0 v1 v3 n) (fun s => NL_Sheet_trimBlanks_2 v0 v1 s n) := it_eq2 (fun s : Int => nb_Sheet_trimBlanks_2 v0 v1 s n) (v3)
noncomputable def N_Sheet_trimBlanks (v0 : Int) (v1 : Int) (v2 : Int) (n : NS) : Option (Int) :=
  (NL_Sheet_trimBlanks_2 v0 v1 v2 n).bind <| fun z1 =>
  some z1
theorem f_Sheet_trimBlanks {w y : Prop} {g : g_S} {n : NS} {m : YS} {xv0 : Nat} {v0 : Int} (ev0 : xv0 = Int.toNat v0) (rv0 : 0 ≤ v0 ∧ lc (Int.toNat v0) = (99, v0)) {xv1 : Int32} {v1 : Int} (ev1 : xv1 = Int32.ofInt v1) (rv1 : inR v1) {xv2 : Int32} {v2 : Int} (ev2 : xv2 = Int32.ofInt v2) (rv2 : inR v2) (hR : RC w y g n m) : Rf (fun a b => RI a b) (M_Sheet_trimBlanks xv0 xv1 xv2 g) (N_Sheet_trimBlanks v0 v1 v2 n) := by
  subst ev0
  subst ev1
  subst ev2
  unfold M_Sheet_trimBlanks N_Sheet_trimBlanks
  refine rf_bind (fL_Sheet_trimBlanks_2 rfl rv0 rfl rv1 rfl rv2 hR) (fun a2 z1 h => ?_)
  obtain ⟨rfl, r3⟩ := (show RI a2 z1 from h)
  exact rf_ok (by exact ⟨rfl, r3⟩)
noncomputable def N_Sheet_takeSelector (v1 : Int) (v2 : Int) (v3 : Int) (v4 : Int) (n : NS) : Option (Int × NS) :=
  (N_Sheet_skipBlanks v1 v2 v3 n).bind fun z2 =>
  (N_Sheet_trimBlanks v1 z2 v3 n).bind fun z6 =>
  (N_Sheet_readSelector v1 z2 z6 v4 n).bind <| u2 fun z10 n13 =>
  if z10 = (-1) then
    some (1, n13)
  else
    some (0, n13)
theorem f_Sheet_takeSelector {w y : Prop} {g : g_S} {n : NS} {m : YS} (hw : w) {xv1 : Nat} {v1 : Int} (ev1 : xv1 = Int.toNat v1) (rv1 : 0 ≤ v1 ∧ lc (Int.toNat v1) = (99, v1)) {xv2 : Int32} {v2 : Int} (ev2 : xv2 = Int32.ofInt v2) (rv2 : inR v2) {xv3 : Int32} {v3 : Int} (ev3 : xv3 = Int32.ofInt v3) (rv3 : inR v3) {xv4 : Int32} {v4 : Int} (ev4 : xv4 = Int32.ofInt v4) (rv4 : inR v4) (hR : RC w y g n m) : Rf (fun a b => RZ a.1 b.1 ∧ RC w y a.2 b.2 m) (M_Sheet_takeSelector 1650 xv1 xv2 xv3 xv4 g) (N_Sheet_takeSelector v1 v2 v3 v4 n) := by
  subst ev1
  subst ev2
  subst ev3
  subst ev4
  unfold M_Sheet_takeSelector N_Sheet_takeSelector
  refine rf_bind (f_Sheet_skipBlanks rfl rv1 rfl rv2 rfl rv3 hR) (fun a4 z2 h => ?_)
  obtain ⟨rfl, r3⟩ := h
  refine rf_bind (f_Sheet_trimBlanks rfl rv1 rfl r3 rfl rv3 hR) (fun a8 z6 h => ?_)
  obtain ⟨rfl, r7⟩ := h
  refine v_c2 (sK9 hR hw).1 ?_
  refine rf_c2 (f_Sheet_readSelector hw rfl rv1 rfl r3 rfl r7 rfl rv4 hR) (fun a12 g15 b h => ?_)
  obtain ⟨z10, n13⟩ := b
  refine rf_v2 ?_
  obtain ⟨rfl, r11⟩ := (show RI a12 z10 from h.1)
  have hR14 : RC w y g15 n13 m := h.2
  refine rf_eq rfl (e_m 1) r11 (show inR (-1) by decide) ?_ ?_
  · exact rf_ok (by exact ⟨⟨(e_n 1), (.inr rfl)⟩, hR14⟩)
  · exact rf_ok (by exact ⟨⟨(e_n 0), (.inl rfl)⟩, hR14⟩)
noncomputable def nb_Sheet_areSelectors_6 (v1 : Int) (v3 : Int) (v4 : Int) (v5 : Int) (n : NS) : Option ((Int × Int × NS) ⊕ ((NS) ⊕ (NS))) :=
  if v3 < v5 then
    some (.inr (.inr n))
  else
    if v3 < v4 then
      some (.inr (.inr n))
    else
      (N_Sheet_indexOf v1 v4 v3 44 n).bind fun z4 =>
      (N_Sheet_takeSelector v1 v4 z4 40 n).bind <| u2 fun z8 n11 =>
      if z8 = 0 then
        some (.inr (.inl n11))
      else
        ck (z4 + 1) <|
        ck (v5 + 1) <|
        some (.inl (z4 + 1, v5 + 1, n11))
theorem fb_Sheet_areSelectors_6 {w y : Prop} {g : g_S} {n : NS} {m : YS} (hw : w) {xv1 : Nat} {v1 : Int} (ev1 : xv1 = Int.toNat v1) (rv1 : 0 ≤ v1 ∧ lc (Int.toNat v1) = (99, v1)) {xv3 : Int32} {v3 : Int} (ev3 : xv3 = Int32.ofInt v3) (rv3 : inR v3) {xv4 : Int32} {v4 : Int} (ev4 : xv4 = Int32.ofInt v4) (rv4 : inR v4) {xv5 : Int32} {v5 : Int} (ev5 : xv5 = Int32.ofInt v5) (rv5 : inR v5) (hR : RC w y g n m) : Rf (RS (fun a b => RI a.1 b.1 ∧ RI a.2.1 b.2.1 ∧ RC w y a.2.2 b.2.2 m) (RS (fun a b => RC w y a b m) (fun a b => RC w y a b m))) (b_Sheet_areSelectors_6 1650 xv1 xv3 xv4 xv5 g) (nb_Sheet_areSelectors_6 v1 v3 v4 v5 n) := by
  subst ev1
  subst ev3
  subst ev4
  subst ev5
  unfold b_Sheet_areSelectors_6 nb_Sheet_areSelectors_6
  refine rf_lt rfl rfl rv3 rv5 ?_ ?_
  · exact rf_ok (by exact hR)
  · refine rf_lt rfl rfl rv3 rv4 ?_ ?_
    · exact rf_ok (by exact hR)
    · refine rf_bind (f_Sheet_indexOf rfl rv1 rfl rv4 rfl rv3 (e_n 44) (show inR 44 by decide) hR) (fun a6 z4 h => ?_)
      obtain ⟨rfl, r5⟩ := h
      refine v_c2 (sK9 hR hw).1 ?_
      refine rf_c2 (f_Sheet_takeSelector hw rfl rv1 rfl rv4 rfl r5 (e_n 40) (show inR 40 by decide) hR) (fun a10 g13 b h => ?_)
      obtain ⟨z8, n11⟩ := b
      refine rf_v2 ?_
      obtain ⟨rfl, r9⟩ := (show RZ a10 z8 from h.1)
      have hR12 : RC w y g13 n11 m := h.2
      refine rf_eq rfl (e_n 0) (inZ.r r9) (show inR 0 by decide) ?_ ?_
      · exact rf_ok (by exact hR12)
      · refine rf_ck (fun h15 => ?_)
        refine rf_ck (fun h16 => ?_)
        exact rf_ok (by exact ⟨⟨(e_add rfl (e_n 1)), h15⟩, ⟨(e_add rfl (e_n 1)), h16⟩, hR12⟩)
noncomputable def NL_Sheet_areSelectors_6 (v1 : Int) (v3 : Int) (v4 : Int) (v5 : Int) (n : NS) : Option ((NS) ⊕ (NS)) :=
  it (fun s : Int × Int × NS => nb_Sheet_areSelectors_6 v1 v3 s.1 s.2.1 s.2.2) (v4, v5, n)
theorem fL_Sheet_areSelectors_6 {w y : Prop} {g : g_S} {n : NS} {m : YS} (hw : w) {xv1 : Nat} {v1 : Int} (ev1 : xv1 = Int.toNat v1) (rv1 : 0 ≤ v1 ∧ lc (Int.toNat v1) = (99, v1)) {xv3 : Int32} {v3 : Int} (ev3 : xv3 = Int32.ofInt v3) (rv3 : inR v3) {xv4 : Int32} {v4 : Int} (ev4 : xv4 = Int32.ofInt v4) (rv4 : inR v4) {xv5 : Int32} {v5 : Int} (ev5 : xv5 = Int32.ofInt v5) (rv5 : inR v5) (hR : RC w y g n m) : Rf (RS (fun a b => RC w y a b m) (fun a b => RC w y a b m)) (L_Sheet_areSelectors_6 1650 xv1 xv3 xv4 xv5 g) (NL_Sheet_areSelectors_6 v1 v3 v4 v5 n) := by
  subst ev1
  subst ev3
  subst ev4
  subst ev5
  unfold L_Sheet_areSelectors_6 NL_Sheet_areSelectors_6
  refine rf_it (I := (fun a b => RI a.1 b.1 ∧ RI a.2.1 b.2.1 ∧ RC w y a.2.2 b.2.2 m)) (fun s t h => ?_) ⟨⟨rfl, rv4⟩, ⟨rfl, rv5⟩, hR⟩
  exact fb_Sheet_areSelectors_6 hw rfl rv1 rfl rv3 h.1.1 h.1.2 h.2.1.1 h.2.1.2 h.2.2
theorem NL_Sheet_areSelectors_6_eq (v1 : Int) (v3 : Int) (v4 : Int) (v5 : Int) (n : NS) : NL_Sheet_areSelectors_6 v1 v3 v4 v5 n = itc (nb_Sheet_areSelectors_6 v1 v3 v4 v5 n) (fun s => NL_Sheet_areSelectors_6 v1 v3 s.1 s.2.1 s.2.2) := it_eq2 (fun s : Int × Int × NS => nb_Sheet_areSelectors_6 v1 v3 s.1 s.2.1 s.2.2) (v4, v5, n)
noncomputable def N_Sheet_areSelectors (v1 : Int) (v2 : Int) (v3 : Int) (n : NS) : Option (Int × NS) :=
  (NL_Sheet_areSelectors_6 v1 v3 v2 v2 n).bind <|
    us (fun n1 =>
    some (0, n1))
    (fun n5 =>
    some (1, n5))
theorem f_Sheet_areSelectors {w y : Prop} {g : g_S} {n : NS} {m : YS} (hw : w) {xv1 : Nat} {v1 : Int} (ev1 : xv1 = Int.toNat v1) (rv1 : 0 ≤ v1 ∧ lc (Int.toNat v1) = (99, v1)) {xv2 : Int32} {v2 : Int} (ev2 : xv2 = Int32.ofInt v2) (rv2 : inR v2) {xv3 : Int32} {v3 : Int} (ev3 : xv3 = Int32.ofInt v3) (rv3 : inR v3) (hR : RC w y g n m) : Rf (fun a b => RZ a.1 b.1 ∧ RC w y a.2 b.2 m) (M_Sheet_areSelectors 1650 xv1 xv2 xv3 g) (N_Sheet_areSelectors v1 v2 v3 n) := by
  subst ev1
  subst ev2
  subst ev3
  unfold M_Sheet_areSelectors N_Sheet_areSelectors
  refine rf_bind (fL_Sheet_areSelectors_6 hw rfl rv1 rfl rv3 rfl rv2 rfl rv2 hR) (fun a b h => rf_us h (fun a2 n1 h => ?_) (fun a6 n5 h => ?_))
  · have hR3 : RC w y a2 n1 m := h
    exact rf_ok (by exact ⟨⟨(e_n 0), (.inl rfl)⟩, hR3⟩)
  · have hR7 : RC w y a6 n5 m := h
    exact rf_ok (by exact ⟨⟨(e_n 1), (.inr rfl)⟩, hR7⟩)
noncomputable def N_Arrays_rangeCheck (v0 : Int) (v1 : Int) (v2 : Int) (n : NS) : Option (NS) :=
  if v2 < v1 then
    none
  else
    if v1 < 0 then
      none
    else
      if v0 < v2 then
        none
      else
        some n
theorem f_Arrays_rangeCheck {w y : Prop} {g : g_S} {n : NS} {m : YS} {xv0 : Int32} {v0 : Int} (ev0 : xv0 = Int32.ofInt v0) (rv0 : inR v0) {xv1 : Int32} {v1 : Int} (ev1 : xv1 = Int32.ofInt v1) (rv1 : inR v1) {xv2 : Int32} {v2 : Int} (ev2 : xv2 = Int32.ofInt v2) (rv2 : inR v2) (hR : RC w y g n m) : Rf (fun a b => RC w y a b m) (M_Arrays_rangeCheck xv0 xv1 xv2 g) (N_Arrays_rangeCheck v0 v1 v2 n) := by
  subst ev0
  subst ev1
  subst ev2
  unfold M_Arrays_rangeCheck N_Arrays_rangeCheck
  refine rf_lt rfl rfl rv2 rv1 ?_ ?_
  · exact rf_no
  · refine rf_lt rfl (e_n 0) rv1 (show inR 0 by decide) ?_ ?_
    · exact rf_no
    · refine rf_lt rfl rfl rv0 rv2 ?_ ?_
      · exact rf_no
      · exact rf_ok (by exact hR)
noncomputable def nb_Arrays_fill_10 (v2 : Int) (v3 : Int) (v4 : Int) (n : NS) : Option ((Int × NS) ⊕ (NS)) :=
  if v4 < v2 then
    ix v4 440 <|
    st (nw n 39 0 v4 v3) fun n3 =>
    ck (v4 + 1) <|
    some (.inl (v4 + 1, n3))
  else
    some (.inr n)
theorem fb_Arrays_fill_10 {w y : Prop} {g : g_S} {n : NS} {m : YS} (hw : w) {xv2 : Int32} {v2 : Int} (ev2 : xv2 = Int32.ofInt v2) (rv2 : inR v2) {xv3 : Int32} {v3 : Int} (ev3 : xv3 = Int32.ofInt v3) (rv3 : inR v3) {xv4 : Int32} {v4 : Int} (ev4 : xv4 = Int32.ofInt v4) (rv4 : inR v4) (hR : RC w y g n m) : Rf (RS (fun a b => RI a.1 b.1 ∧ RC w y a.2 b.2 m) (fun a b => RC w y a b m)) (b_Arrays_fill_10 1658 xv2 xv3 xv4 g) (nb_Arrays_fill_10 v2 v3 v4 n) := by
  subst ev2
  subst ev3
  subst ev4
  unfold b_Arrays_fill_10 nb_Arrays_fill_10
  refine rf_lt rfl rfl rv4 rv2 ?_ ?_
  · refine t_I (L := 440) hR (sA39 hR hw) (lA39 hR hw) rfl rfl rv4 rfl rv3 (fun g5 n3 hR4 => ?_)
    refine rf_ck (fun h6 => ?_)
    exact rf_ok (by exact ⟨⟨(e_add rfl (e_n 1)), h6⟩, hR4⟩)
  · exact rf_ok (by exact hR)
noncomputable def NL_Arrays_fill_10 (v2 : Int) (v3 : Int) (v4 : Int) (n : NS) : Option (NS) :=
  it (fun s : Int × NS => nb_Arrays_fill_10 v2 v3 s.1 s.2) (v4, n)
theorem fL_Arrays_fill_10 {w y : Prop} {g : g_S} {n : NS} {m : YS} (hw : w) {xv2 : Int32} {v2 : Int} (ev2 : xv2 = Int32.ofInt v2) (rv2 : inR v2) {xv3 : Int32} {v3 : Int} (ev3 : xv3 = Int32.ofInt v3) (rv3 : inR v3) {xv4 : Int32} {v4 : Int} (ev4 : xv4 = Int32.ofInt v4) (rv4 : inR v4) (hR : RC w y g n m) : Rf (fun a b => RC w y a b m) (L_Arrays_fill_10 1658 xv2 xv3 xv4 g) (NL_Arrays_fill_10 v2 v3 v4 n) := by
  subst ev2
  subst ev3
  subst ev4
  unfold L_Arrays_fill_10 NL_Arrays_fill_10
  refine rf_it (I := (fun a b => RI a.1 b.1 ∧ RC w y a.2 b.2 m)) (fun s t h => ?_) ⟨⟨rfl, rv4⟩, hR⟩
  exact fb_Arrays_fill_10 hw rfl rv2 rfl rv3 h.1.1 h.1.2 h.2
theorem NL_Arrays_fill_10_eq (v2 : Int) (v3 : Int) (v4 : Int) (n : NS) : NL_Arrays_fill_10 v2 v3 v4 n = itc (nb_Arrays_fill_10 v2 v3 v4 n) (fun s => NL_Arrays_fill_10 v2 v3 s.1 s.2) := it_eq2 (fun s : Int × NS => nb_Arrays_fill_10 v2 v3 s.1 s.2) (v4, n)
noncomputable def N_Arrays_fill (v1 : Int) (v2 : Int) (v3 : Int) (n : NS) : Option (NS) :=
  (N_Arrays_rangeCheck 440 v1 v2 n).bind fun n3 =>
  (NL_Arrays_fill_10 v2 v3 v1 n3).bind <| fun n6 =>
  some n6
theorem f_Arrays_fill {w y : Prop} {g : g_S} {n : NS} {m : YS} (hw : w) {xv1 : Int32} {v1 : Int} (ev1 : xv1 = Int32.ofInt v1) (rv1 : inR v1) {xv2 : Int32} {v2 : Int} (ev2 : xv2 = Int32.ofInt v2) (rv2 : inR v2) {xv3 : Int32} {v3 : Int} (ev3 : xv3 = Int32.ofInt v3) (rv3 : inR v3) (hR : RC w y g n m) : Rf (fun a b => RC w y a b m) (M_Arrays_fill 1658 xv1 xv2 xv3 g) (N_Arrays_fill v1 v2 v3 n) := by
  subst ev1
  subst ev2
  subst ev3
  unfold M_Arrays_fill N_Arrays_fill
  refine s_N (sA39 hR hw) (by decide) (lA39 hR hw) ?_
  refine rf_bind (f_Arrays_rangeCheck (e_N 440) (show inR 440 by decide) rfl rv1 rfl rv2 hR) (fun g5 n3 hR4 => ?_)
  refine rf_bind (fL_Arrays_fill_10 hw rfl rv2 rfl rv3 rfl rv1 hR4) (fun a7 n6 h => ?_)
  have hR8 : RC w y a7 n6 m := h
  exact rf_ok (by exact hR8)
noncomputable def N_Bytes_isSmall (v0 : Int) (n : NS) : Option (Int) :=
  if v0 < 97 then
    some 0
  else
    if 122 < v0 then
      some 0
    else
      some 1
theorem f_Bytes_isSmall {w y : Prop} {g : g_S} {n : NS} {m : YS} {xv0 : Int32} {v0 : Int} (ev0 : xv0 = Int32.ofInt v0) (rv0 : inR v0) (hR : RC w y g n m) : Rf (fun a b => RZ a b) (M_Bytes_isSmall xv0 g) (N_Bytes_isSmall v0 n) := by
  subst ev0
  unfold M_Bytes_isSmall N_Bytes_isSmall
  refine rf_lt rfl (e_n 97) rv0 (show inR 97 by decide) ?_ ?_
  · exact rf_ok (by exact ⟨(e_n 0), (.inl rfl)⟩)
  · refine rf_lt (e_n 122) rfl (show inR 122 by decide) rv0 ?_ ?_
    · exact rf_ok (by exact ⟨(e_n 0), (.inl rfl)⟩)
    · exact rf_ok (by exact ⟨(e_n 1), (.inr rfl)⟩)
noncomputable def nk_Sheet_readValue_98 (v0 : Int) (v1 : Int) (v2 : Int) (v3 : Int) (n : NS) : Option (Int) :=
  (N_Bytes_number v1 v2 v3 n).bind fun z2 =>
  gcn n <|
  (sS 2000001 v0).bind fun z8 =>
  if z2 < z8 then
    some (-1)
  else
    gcn n <|
    (sS 2000002 v0).bind fun z15 =>
    if z15 < z2 then
      some (-1)
    else
      some z2
theorem fk_Sheet_readValue_98 {w y : Prop} {g : g_S} {n : NS} {m : YS} {xv0 : Int32} {v0 : Int} (ev0 : xv0 = Int32.ofInt v0) (rv0 : inR v0) {xv1 : Nat} {v1 : Int} (ev1 : xv1 = Int.toNat v1) (rv1 : 0 ≤ v1 ∧ lc (Int.toNat v1) = (99, v1)) {xv2 : Int32} {v2 : Int} (ev2 : xv2 = Int32.ofInt v2) (rv2 : inR v2) {xv3 : Int32} {v3 : Int} (ev3 : xv3 = Int32.ofInt v3) (rv3 : inR v3) (hR : RC w y g n m) : Rf (fun a b => RI a b) (k_Sheet_readValue_98 xv0 xv1 xv2 xv3 g) (nk_Sheet_readValue_98 v0 v1 v2 v3 n) := by
  subst ev0
  subst ev1
  subst ev2
  subst ev3
  unfold k_Sheet_readValue_98 nk_Sheet_readValue_98
  refine rf_bind (f_Bytes_number rfl rv1 rfl rv2 rfl rv3 hR) (fun a4 z2 h => ?_)
  obtain ⟨rfl, r3⟩ := h
  refine rf_gcn hR (fun h7 => ?_)
  refine t_S hR h7 rfl rv0 (fun z8 r9 => ?_)
  refine rf_lt rfl rfl r3 r9 ?_ ?_
  · exact rf_ok (by exact ⟨(e_m 1), (show inR (-1) by decide)⟩)
  · refine rf_gcn hR (fun h14 => ?_)
    refine t_S hR h14 rfl rv0 (fun z15 r16 => ?_)
    refine rf_lt rfl rfl r16 r3 ?_ ?_
    · exact rf_ok (by exact ⟨(e_m 1), (show inR (-1) by decide)⟩)
    · exact rf_ok (by exact ⟨rfl, r3⟩)
noncomputable def N_Sheet_readValue (v0 : Int) (v1 : Int) (v2 : Int) (v3 : Int) (n : NS) : Option (Int) :=
  if v0 = 0 then
    (N_Bytes_wordPlace 1000039 v1 v2 v3 n).bind fun z4 =>
    some z4
  else
    if v0 = 9 then
      (N_Bytes_wordPlace 1000040 v1 v2 v3 n).bind fun z11 =>
      some z11
    else
      if v0 = 10 then
        (N_Bytes_wordPlace 1000041 v1 v2 v3 n).bind fun z18 =>
        some z18
      else
        if v0 = 6 then
          if v2 < v3 then
            ck (v3 - 1) <|
            dx n v1 1 (v3 - 1) <|
            if (n 99 v1 (v3 - 1)) = 37 then
              ck (v3 - 1) <|
              (N_Bytes_number v1 v2 (v3 - 1) n).bind fun z30 =>
              if z30 < 1 then
                some (-1)
              else
                if 100 < z30 then
                  some (-1)
                else
                  ck (1000 + z30) <|
                  some (1000 + z30)
            else
              nk_Sheet_readValue_98 v0 v1 v2 v3 n
          else
            nk_Sheet_readValue_98 v0 v1 v2 v3 n
        else
          nk_Sheet_readValue_98 v0 v1 v2 v3 n
theorem f_Sheet_readValue {w y : Prop} {g : g_S} {n : NS} {m : YS} {xv0 : Int32} {v0 : Int} (ev0 : xv0 = Int32.ofInt v0) (rv0 : inR v0) {xv1 : Nat} {v1 : Int} (ev1 : xv1 = Int.toNat v1) (rv1 : 0 ≤ v1 ∧ lc (Int.toNat v1) = (99, v1)) {xv2 : Int32} {v2 : Int} (ev2 : xv2 = Int32.ofInt v2) (rv2 : inR v2) {xv3 : Int32} {v3 : Int} (ev3 : xv3 = Int32.ofInt v3) (rv3 : inR v3) (hR : RC w y g n m) : Rf (fun a b => RI a b) (M_Sheet_readValue xv0 xv1 xv2 xv3 g) (N_Sheet_readValue v0 v1 v2 v3 n) := by
  subst ev0
  subst ev1
  subst ev2
  subst ev3
  unfold M_Sheet_readValue N_Sheet_readValue
  refine rf_eq rfl (e_n 0) rv0 (show inR 0 by decide) ?_ ?_
  · refine rf_bind (f_Bytes_wordPlace rfl rv1 rfl rv2 rfl rv3 hR) (fun a6 z4 h => ?_)
    obtain ⟨rfl, r5⟩ := h
    exact rf_ok (by exact ⟨rfl, r5⟩)
  · refine rf_eq rfl (e_n 9) rv0 (show inR 9 by decide) ?_ ?_
    · refine rf_bind (f_Bytes_wordPlace rfl rv1 rfl rv2 rfl rv3 hR) (fun a13 z11 h => ?_)
      obtain ⟨rfl, r12⟩ := h
      exact rf_ok (by exact ⟨rfl, r12⟩)
    · refine rf_eq rfl (e_n 10) rv0 (show inR 10 by decide) ?_ ?_
      · refine rf_bind (f_Bytes_wordPlace rfl rv1 rfl rv2 rfl rv3 hR) (fun a20 z18 h => ?_)
        obtain ⟨rfl, r19⟩ := h
        exact rf_ok (by exact ⟨rfl, r19⟩)
      · refine rf_eq rfl (e_n 6) rv0 (show inR 6 by decide) ?_ ?_
        · refine rf_lt rfl rfl rv2 rv3 ?_ ?_
          · refine rf_ck (fun h24 => ?_)
            refine d_B hR rv1 (e_sub rfl (e_n 1)) h24 (fun h25 h26 => ?_)
            refine rf_eq rfl (e_n 37) (inB.r h26) (show inR 37 by decide) ?_ ?_
            · refine rf_ck (fun h28 => ?_)
              refine rf_bind (f_Bytes_number rfl rv1 rfl rv2 (e_sub rfl (e_n 1)) h28 hR) (fun a32 z30 h => ?_)
              obtain ⟨rfl, r31⟩ := h
              refine rf_lt rfl (e_n 1) r31 (show inR 1 by decide) ?_ ?_
              · exact rf_ok (by exact ⟨(e_m 1), (show inR (-1) by decide)⟩)
              · refine rf_lt (e_n 100) rfl (show inR 100 by decide) r31 ?_ ?_
                · exact rf_ok (by exact ⟨(e_m 1), (show inR (-1) by decide)⟩)
                · refine rf_ck (fun h37 => ?_)
                  exact rf_ok (by exact ⟨(e_add (e_n 1000) rfl), h37⟩)
            · exact fk_Sheet_readValue_98 rfl rv0 rfl rv1 rfl rv2 rfl rv3 hR
          · exact fk_Sheet_readValue_98 rfl rv0 rfl rv1 rfl rv2 rfl rv3 hR
        · exact fk_Sheet_readValue_98 rfl rv0 rfl rv1 rfl rv2 rfl rv3 hR
noncomputable def nb_Sheet_readDeclaration_12 (v1 : Int) (v3 : Int) (v4 : Int) (v5 : Int) (v6 : Int) (n : NS) : Option ((Int) ⊕ (Int)) :=
  if v6 < v3 then
    dx n v1 1 v6 <|
    (N_Bytes_isSmall (n 99 v1 v6) n).bind fun z5 =>
    if z5 = 0 then
      some (.inr v6)
    else
      ck (v6 + 1) <|
      some (.inl (v6 + 1))
  else
    some (.inr v6)
theorem fb_Sheet_readDeclaration_12 {w y : Prop} {g : g_S} {n : NS} {m : YS} (hw : w) {xv1 : Nat} {v1 : Int} (ev1 : xv1 = Int.toNat v1) (rv1 : 0 ≤ v1 ∧ lc (Int.toNat v1) = (99, v1)) {xv3 : Int32} {v3 : Int} (ev3 : xv3 = Int32.ofInt v3) (rv3 : inR v3) {xv4 : Int32} {v4 : Int} (ev4 : xv4 = Int32.ofInt v4) (rv4 : inR v4) {xv5 : Int32} {v5 : Int} (ev5 : xv5 = Int32.ofInt v5) (rv5 : inR v5) {xv6 : Int32} {v6 : Int} (ev6 : xv6 = Int32.ofInt v6) (rv6 : inR v6) (hR : RC w y g n m) : Rf (RS (fun a b => RI a b) (fun a b => RI a b)) (b_Sheet_readDeclaration_12 1650 xv1 xv3 xv4 xv5 xv6 g) (nb_Sheet_readDeclaration_12 v1 v3 v4 v5 v6 n) := by
  subst ev1
  subst ev3
  subst ev4
  subst ev5
  subst ev6
  unfold b_Sheet_readDeclaration_12 nb_Sheet_readDeclaration_12
  refine rf_lt rfl rfl rv6 rv3 ?_ ?_
  · refine d_B hR rv1 rfl rv6 (fun h2 h3 => ?_)
    refine rf_bind (f_Bytes_isSmall rfl (inB.r h3) hR) (fun a7 z5 h => ?_)
    obtain ⟨rfl, r6⟩ := h
    refine rf_eq rfl (e_n 0) (inZ.r r6) (show inR 0 by decide) ?_ ?_
    · exact rf_ok (by exact ⟨rfl, rv6⟩)
    · refine rf_ck (fun h9 => ?_)
      exact rf_ok (by exact ⟨(e_add rfl (e_n 1)), h9⟩)
  · exact rf_ok (by exact ⟨rfl, rv6⟩)
noncomputable def NL_Sheet_readDeclaration_12 (v1 : Int) (v3 : Int) (v4 : Int) (v5 : Int) (v6 : Int) (n : NS) : Option (Int) :=
  it (fun s : Int => nb_Sheet_readDeclaration_12 v1 v3 v4 v5 s n) (v6)
theorem fL_Sheet_readDeclaration_12 {w y : Prop} {g : g_S} {n : NS} {m : YS} (hw : w) {xv1 : Nat} {v1 : Int} (ev1 : xv1 = Int.toNat v1) (rv1 : 0 ≤ v1 ∧ lc (Int.toNat v1) = (99, v1)) {xv3 : Int32} {v3 : Int} (ev3 : xv3 = Int32.ofInt v3) (rv3 : inR v3) {xv4 : Int32} {v4 : Int} (ev4 : xv4 = Int32.ofInt v4) (rv4 : inR v4) {xv5 : Int32} {v5 : Int} (ev5 : xv5 = Int32.ofInt v5) (rv5 : inR v5) {xv6 : Int32} {v6 : Int} (ev6 : xv6 = Int32.ofInt v6) (rv6 : inR v6) (hR : RC w y g n m) : Rf (fun a b => RI a b) (L_Sheet_readDeclaration_12 1650 xv1 xv3 xv4 xv5 xv6 g) (NL_Sheet_readDeclaration_12 v1 v3 v4 v5 v6 n) := by
  subst ev1
  subst ev3
  subst ev4
  subst ev5
  subst ev6
  unfold L_Sheet_readDeclaration_12 NL_Sheet_readDeclaration_12
  refine rf_it (I := (fun a b => RI a b)) (fun s t h => ?_) ⟨rfl, rv6⟩
  exact fb_Sheet_readDeclaration_12 hw rfl rv1 rfl rv3 rfl rv4 rfl rv5 h.1 h.2 hR
theorem NL_Sheet_readDeclaration_12_eq (v1 : Int) (v3 : Int) (v4 : Int) (v5 : Int) (v6 : Int) (n : NS) : NL_Sheet_readDeclaration_12 v1 v3 v4 v5 v6 n = itc (nb_Sheet_readDeclaration_12 v1 v3 v4 v5 v6 n) (fun s => NL_Sheet_readDeclaration_12 v1 v3 v4 v5 s n) := it_eq2 (fun s : Int => nb_Sheet_readDeclaration_12 v1 v3 v4 v5 s n) (v6)
noncomputable def nk_Sheet_readDeclaration_205 (w0 : Int) (w1 : Int) (n : NS) : Option (NS) :=
  ix w1 440 <|
  st (nw n 39 0 w1 w0) fun n2 =>
  some n2
theorem fk_Sheet_readDeclaration_205 {w y : Prop} {g : g_S} {n : NS} {m : YS} (hw : w) {xw0 : Int32} {w0 : Int} (ew0 : xw0 = Int32.ofInt w0) (rw0 : inR w0) {xw1 : Int32} {w1 : Int} (ew1 : xw1 = Int32.ofInt w1) (rw1 : inR w1) (hR : RC w y g n m) : Rf (fun a b => RC w y a b m) (k_Sheet_readDeclaration_205 xw0 xw1 1658 g) (nk_Sheet_readDeclaration_205 w0 w1 n) := by
  subst ew0
  subst ew1
  unfold k_Sheet_readDeclaration_205 nk_Sheet_readDeclaration_205
  refine t_I (L := 440) hR (sA39 hR hw) (lA39 hR hw) rfl rfl rw1 rfl rw0 (fun g4 n2 hR3 => ?_)
  exact rf_ok (by exact hR3)
noncomputable def nk_Sheet_readDeclaration_184 (v11 : Int) (v12 : Int) (v13 : Int) (n : NS) : Option (NS) :=
  if v11 = 0 then
    nk_Sheet_readDeclaration_205 v12 v13 n
  else
    ck (v12 + 65536) <|
    nk_Sheet_readDeclaration_205 (v12 + 65536) v13 n
theorem fk_Sheet_readDeclaration_184 {w y : Prop} {g : g_S} {n : NS} {m : YS} (hw : w) {xv11 : Int32} {v11 : Int} (ev11 : xv11 = Int32.ofInt v11) (rv11 : inR v11) {xv12 : Int32} {v12 : Int} (ev12 : xv12 = Int32.ofInt v12) (rv12 : inR v12) {xv13 : Int32} {v13 : Int} (ev13 : xv13 = Int32.ofInt v13) (rv13 : inR v13) (hR : RC w y g n m) : Rf (fun a b => RC w y a b m) (k_Sheet_readDeclaration_184 1650 xv11 xv12 xv13 g) (nk_Sheet_readDeclaration_184 v11 v12 v13 n) := by
  subst ev11
  subst ev12
  subst ev13
  unfold k_Sheet_readDeclaration_184 nk_Sheet_readDeclaration_184
  refine c_S hR hw (sK9 hR hw) (by decide) (show srf 9 0 8 = some 1658 from rfl) ?_
  refine rf_eq rfl (e_n 0) rv11 (show inR 0 by decide) ?_ ?_
  · exact fk_Sheet_readDeclaration_205 hw rfl rv12 rfl rv13 hR
  · refine rf_ck (fun h4 => ?_)
    exact fk_Sheet_readDeclaration_205 hw (e_add rfl (e_n 65536)) h4 rfl rv13 hR
noncomputable def nk_Sheet_readDeclaration_139 (v1 : Int) (v4 : Int) (v7 : Int) (v9 : Int) (v10 : Int) (v11 : Int) (n : NS) : Option (NS) :=
  (N_Sheet_readValue v7 v1 v9 v10 n).bind fun z2 =>
  ck (v4 * 11) <|
  ck ((v4 * 11) + v7) <|
  if z2 = (-1) then
    some n
  else
    if v11 = 0 then
      ix ((v4 * 11) + v7) 440 <|
      if (n 39 0 ((v4 * 11) + v7)) < 65536 then
        nk_Sheet_readDeclaration_184 v11 z2 ((v4 * 11) + v7) n
      else
        some n
    else
      nk_Sheet_readDeclaration_184 v11 z2 ((v4 * 11) + v7) n
theorem fk_Sheet_readDeclaration_139 {w y : Prop} {g : g_S} {n : NS} {m : YS} (hw : w) {xv1 : Nat} {v1 : Int} (ev1 : xv1 = Int.toNat v1) (rv1 : 0 ≤ v1 ∧ lc (Int.toNat v1) = (99, v1)) {xv4 : Int32} {v4 : Int} (ev4 : xv4 = Int32.ofInt v4) (rv4 : inR v4) {xv7 : Int32} {v7 : Int} (ev7 : xv7 = Int32.ofInt v7) (rv7 : inR v7) {xv9 : Int32} {v9 : Int} (ev9 : xv9 = Int32.ofInt v9) (rv9 : inR v9) {xv10 : Int32} {v10 : Int} (ev10 : xv10 = Int32.ofInt v10) (rv10 : inR v10) {xv11 : Int32} {v11 : Int} (ev11 : xv11 = Int32.ofInt v11) (rv11 : inR v11) (hR : RC w y g n m) : Rf (fun a b => RC w y a b m) (k_Sheet_readDeclaration_139 1650 xv1 xv4 xv7 xv9 xv10 xv11 g) (nk_Sheet_readDeclaration_139 v1 v4 v7 v9 v10 v11 n) := by
  subst ev1
  subst ev4
  subst ev7
  subst ev9
  subst ev10
  subst ev11
  unfold k_Sheet_readDeclaration_139 nk_Sheet_readDeclaration_139
  refine rf_bind (f_Sheet_readValue rfl rv7 rfl rv1 rfl rv9 rfl rv10 hR) (fun a4 z2 h => ?_)
  obtain ⟨rfl, r3⟩ := h
  refine rf_ck (fun h5 => ?_)
  refine rf_ck (fun h6 => ?_)
  refine rf_eq rfl (e_m 1) r3 (show inR (-1) by decide) ?_ ?_
  · exact rf_ok (by exact hR)
  · refine rf_eq rfl (e_n 0) rv11 (show inR 0 by decide) ?_ ?_
    · refine c_S hR hw (sK9 hR hw) (by decide) (show srf 9 0 8 = some 1658 from rfl) ?_
      refine s_I (L := 440) hR (sA39 hR hw) rfl (lA39 hR hw) rfl (e_add (e_mul rfl (e_n 11)) rfl) h6 (fun h11 h12 => ?_)
      refine rf_lt rfl (e_n 65536) h12 (show inR 65536 by decide) ?_ ?_
      · exact fk_Sheet_readDeclaration_184 hw rfl rv11 rfl r3 (e_add (e_mul rfl (e_n 11)) rfl) h6 hR
      · exact rf_ok (by exact hR)
    · exact fk_Sheet_readDeclaration_184 hw rfl rv11 rfl r3 (e_add (e_mul rfl (e_n 11)) rfl) h6 hR
noncomputable def nk_Sheet_readDeclaration_120 (v1 : Int) (v4 : Int) (v7 : Int) (v9 : Int) (v10 : Int) (w0 : Int) (n : NS) : Option (NS) :=
  if w0 = 0 then
    nk_Sheet_readDeclaration_139 v1 v4 v7 v9 v10 w0 n
  else
    ck (v10 - 1) <|
    (N_Sheet_trimBlanks v1 v9 (v10 - 1) n).bind fun z4 =>
    nk_Sheet_readDeclaration_139 v1 v4 v7 v9 z4 w0 n
theorem fk_Sheet_readDeclaration_120 {w y : Prop} {g : g_S} {n : NS} {m : YS} (hw : w) {xv1 : Nat} {v1 : Int} (ev1 : xv1 = Int.toNat v1) (rv1 : 0 ≤ v1 ∧ lc (Int.toNat v1) = (99, v1)) {xv4 : Int32} {v4 : Int} (ev4 : xv4 = Int32.ofInt v4) (rv4 : inR v4) {xv7 : Int32} {v7 : Int} (ev7 : xv7 = Int32.ofInt v7) (rv7 : inR v7) {xv9 : Int32} {v9 : Int} (ev9 : xv9 = Int32.ofInt v9) (rv9 : inR v9) {xv10 : Int32} {v10 : Int} (ev10 : xv10 = Int32.ofInt v10) (rv10 : inR v10) {xw0 : Int32} {w0 : Int} (ew0 : xw0 = Int32.ofInt w0) (rw0 : inR w0) (hR : RC w y g n m) : Rf (fun a b => RC w y a b m) (k_Sheet_readDeclaration_120 1650 xv1 xv4 xv7 xv9 xv10 xw0 g) (nk_Sheet_readDeclaration_120 v1 v4 v7 v9 v10 w0 n) := by
  subst ev1
  subst ev4
  subst ev7
  subst ev9
  subst ev10
  subst ew0
  unfold k_Sheet_readDeclaration_120 nk_Sheet_readDeclaration_120
  refine rf_eq rfl (e_n 0) rw0 (show inR 0 by decide) ?_ ?_
  · exact fk_Sheet_readDeclaration_139 hw rfl rv1 rfl rv4 rfl rv7 rfl rv9 rfl rv10 rfl rw0 hR
  · refine rf_ck (fun h2 => ?_)
    refine rf_bind (f_Sheet_trimBlanks rfl rv1 rfl rv9 (e_sub rfl (e_n 1)) h2 hR) (fun a6 z4 h => ?_)
    obtain ⟨rfl, r5⟩ := h
    exact fk_Sheet_readDeclaration_139 hw rfl rv1 rfl rv4 rfl rv7 rfl rv9 rfl r5 rfl rw0 hR
noncomputable def nk_Sheet_readDeclaration_119 (v1 : Int) (v4 : Int) (v7 : Int) (v9 : Int) (v10 : Int) (n : NS) : Option (NS) :=
  nk_Sheet_readDeclaration_120 v1 v4 v7 v9 v10 0 n
theorem fk_Sheet_readDeclaration_119 {w y : Prop} {g : g_S} {n : NS} {m : YS} (hw : w) {xv1 : Nat} {v1 : Int} (ev1 : xv1 = Int.toNat v1) (rv1 : 0 ≤ v1 ∧ lc (Int.toNat v1) = (99, v1)) {xv4 : Int32} {v4 : Int} (ev4 : xv4 = Int32.ofInt v4) (rv4 : inR v4) {xv7 : Int32} {v7 : Int} (ev7 : xv7 = Int32.ofInt v7) (rv7 : inR v7) {xv9 : Int32} {v9 : Int} (ev9 : xv9 = Int32.ofInt v9) (rv9 : inR v9) {xv10 : Int32} {v10 : Int} (ev10 : xv10 = Int32.ofInt v10) (rv10 : inR v10) (hR : RC w y g n m) : Rf (fun a b => RC w y a b m) (k_Sheet_readDeclaration_119 1650 xv1 xv4 xv7 xv9 xv10 g) (nk_Sheet_readDeclaration_119 v1 v4 v7 v9 v10 n) := by
  subst ev1
  subst ev4
  subst ev7
  subst ev9
  subst ev10
  unfold k_Sheet_readDeclaration_119 nk_Sheet_readDeclaration_119
  exact fk_Sheet_readDeclaration_120 hw rfl rv1 rfl rv4 rfl rv7 rfl rv9 rfl rv10 (e_n 0) (show inR 0 by decide) hR
noncomputable def nk_Sheet_readDeclaration_34 (v1 : Int) (v3 : Int) (v4 : Int) (v5 : Int) (v6 : Int) (n : NS) : Option (NS) :=
  (N_Bytes_wordPlace 1000038 v1 v5 v6 n).bind fun z3 =>
  (N_Sheet_skipBlanks v1 v6 v3 n).bind fun z7 =>
  if z3 = (-1) then
    some n
  else
    if z7 = v3 then
      some n
    else
      dx n v1 1 z7 <|
      if (n 99 v1 z7) = 58 then
        ck (z7 + 1) <|
        (N_Sheet_skipBlanks v1 (z7 + 1) v3 n).bind fun z19 =>
        (N_Sheet_trimBlanks v1 z19 v3 n).bind fun z23 =>
        if z19 < z23 then
          ck (z23 - 1) <|
          dx n v1 1 (z23 - 1) <|
          if (n 99 v1 (z23 - 1)) = 33 then
            nk_Sheet_readDeclaration_120 v1 v4 z3 z19 z23 1 n
          else
            nk_Sheet_readDeclaration_119 v1 v4 z3 z19 z23 n
        else
          nk_Sheet_readDeclaration_119 v1 v4 z3 z19 z23 n
      else
        some n
theorem fk_Sheet_readDeclaration_34 {w y : Prop} {g : g_S} {n : NS} {m : YS} (hw : w) {xv1 : Nat} {v1 : Int} (ev1 : xv1 = Int.toNat v1) (rv1 : 0 ≤ v1 ∧ lc (Int.toNat v1) = (99, v1)) {xv3 : Int32} {v3 : Int} (ev3 : xv3 = Int32.ofInt v3) (rv3 : inR v3) {xv4 : Int32} {v4 : Int} (ev4 : xv4 = Int32.ofInt v4) (rv4 : inR v4) {xv5 : Int32} {v5 : Int} (ev5 : xv5 = Int32.ofInt v5) (rv5 : inR v5) {xv6 : Int32} {v6 : Int} (ev6 : xv6 = Int32.ofInt v6) (rv6 : inR v6) (hR : RC w y g n m) : Rf (fun a b => RC w y a b m) (k_Sheet_readDeclaration_34 1650 xv1 xv3 xv4 xv5 xv6 g) (nk_Sheet_readDeclaration_34 v1 v3 v4 v5 v6 n) := by
  subst ev1
  subst ev3
  subst ev4
  subst ev5
  subst ev6
  unfold k_Sheet_readDeclaration_34 nk_Sheet_readDeclaration_34
  refine rf_bind (f_Bytes_wordPlace rfl rv1 rfl rv5 rfl rv6 hR) (fun a5 z3 h => ?_)
  obtain ⟨rfl, r4⟩ := h
  refine rf_bind (f_Sheet_skipBlanks rfl rv1 rfl rv6 rfl rv3 hR) (fun a9 z7 h => ?_)
  obtain ⟨rfl, r8⟩ := h
  refine rf_eq rfl (e_m 1) r4 (show inR (-1) by decide) ?_ ?_
  · exact rf_ok (by exact hR)
  · refine rf_eq rfl rfl r8 rv3 ?_ ?_
    · exact rf_ok (by exact hR)
    · refine d_B hR rv1 rfl r8 (fun h14 h15 => ?_)
      refine rf_eq rfl (e_n 58) (inB.r h15) (show inR 58 by decide) ?_ ?_
      · refine rf_ck (fun h17 => ?_)
        refine rf_bind (f_Sheet_skipBlanks rfl rv1 (e_add rfl (e_n 1)) h17 rfl rv3 hR) (fun a21 z19 h => ?_)
        obtain ⟨rfl, r20⟩ := h
        refine rf_bind (f_Sheet_trimBlanks rfl rv1 rfl r20 rfl rv3 hR) (fun a25 z23 h => ?_)
        obtain ⟨rfl, r24⟩ := h
        refine rf_lt rfl rfl r20 r24 ?_ ?_
        · refine rf_ck (fun h27 => ?_)
          refine d_B hR rv1 (e_sub rfl (e_n 1)) h27 (fun h28 h29 => ?_)
          refine rf_eq rfl (e_n 33) (inB.r h29) (show inR 33 by decide) ?_ ?_
          · exact fk_Sheet_readDeclaration_120 hw rfl rv1 rfl rv4 rfl r4 rfl r20 rfl r24 (e_n 1) (show inR 1 by decide) hR
          · exact fk_Sheet_readDeclaration_119 hw rfl rv1 rfl rv4 rfl r4 rfl r20 rfl r24 hR
        · exact fk_Sheet_readDeclaration_119 hw rfl rv1 rfl rv4 rfl r4 rfl r20 rfl r24 hR
      · exact rf_ok (by exact hR)
noncomputable def N_Sheet_readDeclaration (v1 : Int) (v2 : Int) (v3 : Int) (v4 : Int) (n : NS) : Option (NS) :=
  (N_Sheet_skipBlanks v1 v2 v3 n).bind fun z2 =>
  (NL_Sheet_readDeclaration_12 v1 v3 v4 z2 z2 n).bind <| fun z5 =>
  nk_Sheet_readDeclaration_34 v1 v3 v4 z2 z5 n
theorem f_Sheet_readDeclaration {w y : Prop} {g : g_S} {n : NS} {m : YS} (hw : w) {xv1 : Nat} {v1 : Int} (ev1 : xv1 = Int.toNat v1) (rv1 : 0 ≤ v1 ∧ lc (Int.toNat v1) = (99, v1)) {xv2 : Int32} {v2 : Int} (ev2 : xv2 = Int32.ofInt v2) (rv2 : inR v2) {xv3 : Int32} {v3 : Int} (ev3 : xv3 = Int32.ofInt v3) (rv3 : inR v3) {xv4 : Int32} {v4 : Int} (ev4 : xv4 = Int32.ofInt v4) (rv4 : inR v4) (hR : RC w y g n m) : Rf (fun a b => RC w y a b m) (M_Sheet_readDeclaration 1650 xv1 xv2 xv3 xv4 g) (N_Sheet_readDeclaration v1 v2 v3 v4 n) := by
  subst ev1
  subst ev2
  subst ev3
  subst ev4
  unfold M_Sheet_readDeclaration N_Sheet_readDeclaration
  refine rf_bind (f_Sheet_skipBlanks rfl rv1 rfl rv2 rfl rv3 hR) (fun a4 z2 h => ?_)
  obtain ⟨rfl, r3⟩ := h
  refine rf_bind (fL_Sheet_readDeclaration_12 hw rfl rv1 rfl rv3 rfl rv4 rfl r3 rfl r3 hR) (fun a6 z5 h => ?_)
  obtain ⟨rfl, r7⟩ := (show RI a6 z5 from h)
  exact fk_Sheet_readDeclaration_34 hw rfl rv1 rfl rv3 rfl rv4 rfl r3 rfl r7 hR
noncomputable def nb_Sheet_readRule_128 (v1 : Int) (v4 : Int) (v5 : Int) (v6 : Int) (v7 : Int) (n : NS) : Option ((Int × Int × NS) ⊕ (NS)) :=
  if v7 < v4 then
    if v6 < v4 then
      (N_Sheet_indexOf v1 v6 v4 59 n).bind fun z4 =>
      (N_Sheet_readDeclaration v1 v6 z4 v5 n).bind fun n8 =>
      ck (z4 + 1) <|
      ck (v7 + 1) <|
      some (.inl (z4 + 1, v7 + 1, n8))
    else
      some (.inr n)
  else
    some (.inr n)
theorem fb_Sheet_readRule_128 {w y : Prop} {g : g_S} {n : NS} {m : YS} (hw : w) {xv1 : Nat} {v1 : Int} (ev1 : xv1 = Int.toNat v1) (rv1 : 0 ≤ v1 ∧ lc (Int.toNat v1) = (99, v1)) {xv4 : Int32} {v4 : Int} (ev4 : xv4 = Int32.ofInt v4) (rv4 : inR v4) {xv5 : Int32} {v5 : Int} (ev5 : xv5 = Int32.ofInt v5) (rv5 : inR v5) {xv6 : Int32} {v6 : Int} (ev6 : xv6 = Int32.ofInt v6) (rv6 : inR v6) {xv7 : Int32} {v7 : Int} (ev7 : xv7 = Int32.ofInt v7) (rv7 : inR v7) (hR : RC w y g n m) : Rf (RS (fun a b => RI a.1 b.1 ∧ RI a.2.1 b.2.1 ∧ RC w y a.2.2 b.2.2 m) (fun a b => RC w y a b m)) (b_Sheet_readRule_128 1650 xv1 xv4 xv5 xv6 xv7 g) (nb_Sheet_readRule_128 v1 v4 v5 v6 v7 n) := by
  subst ev1
  subst ev4
  subst ev5
  subst ev6
  subst ev7
  unfold b_Sheet_readRule_128 nb_Sheet_readRule_128
  refine rf_lt rfl rfl rv7 rv4 ?_ ?_
  · refine rf_lt rfl rfl rv6 rv4 ?_ ?_
    · refine rf_bind (f_Sheet_indexOf rfl rv1 rfl rv6 rfl rv4 (e_n 59) (show inR 59 by decide) hR) (fun a6 z4 h => ?_)
      obtain ⟨rfl, r5⟩ := h
      refine v_c (sK9 hR hw).1 ?_
      refine rf_bind (f_Sheet_readDeclaration hw rfl rv1 rfl rv6 rfl r5 rfl rv5 hR) (fun g10 n8 hR9 => ?_)
      refine rf_ck (fun h11 => ?_)
      refine rf_ck (fun h12 => ?_)
      exact rf_ok (by exact ⟨⟨(e_add rfl (e_n 1)), h11⟩, ⟨(e_add rfl (e_n 1)), h12⟩, hR9⟩)
    · exact rf_ok (by exact hR)
  · exact rf_ok (by exact hR)
noncomputable def NL_Sheet_readRule_128 (v1 : Int) (v4 : Int) (v5 : Int) (v6 : Int) (v7 : Int) (n : NS) : Option (NS) :=
  it (fun s : Int × Int × NS => nb_Sheet_readRule_128 v1 v4 v5 s.1 s.2.1 s.2.2) (v6, v7, n)
theorem fL_Sheet_readRule_128 {w y : Prop} {g : g_S} {n : NS} {m : YS} (hw : w) {xv1 : Nat} {v1 : Int} (ev1 : xv1 = Int.toNat v1) (rv1 : 0 ≤ v1 ∧ lc (Int.toNat v1) = (99, v1)) {xv4 : Int32} {v4 : Int} (ev4 : xv4 = Int32.ofInt v4) (rv4 : inR v4) {xv5 : Int32} {v5 : Int} (ev5 : xv5 = Int32.ofInt v5) (rv5 : inR v5) {xv6 : Int32} {v6 : Int} (ev6 : xv6 = Int32.ofInt v6) (rv6 : inR v6) {xv7 : Int32} {v7 : Int} (ev7 : xv7 = Int32.ofInt v7) (rv7 : inR v7) (hR : RC w y g n m) : Rf (fun a b => RC w y a b m) (L_Sheet_readRule_128 1650 xv1 xv4 xv5 xv6 xv7 g) (NL_Sheet_readRule_128 v1 v4 v5 v6 v7 n) := by
  subst ev1
  subst ev4
  subst ev5
  subst ev6
  subst ev7
  unfold L_Sheet_readRule_128 NL_Sheet_readRule_128
  refine rf_it (I := (fun a b => RI a.1 b.1 ∧ RI a.2.1 b.2.1 ∧ RC w y a.2.2 b.2.2 m)) (fun s t h => ?_) ⟨⟨rfl, rv6⟩, ⟨rfl, rv7⟩, hR⟩
  exact fb_Sheet_readRule_128 hw rfl rv1 rfl rv4 rfl rv5 h.1.1 h.1.2 h.2.1.1 h.2.1.2 h.2.2
theorem NL_Sheet_readRule_128_eq (v1 : Int) (v4 : Int) (v5 : Int) (v6 : Int) (v7 : Int) (n : NS) : NL_Sheet_readRule_128 v1 v4 v5 v6 v7 n = itc (nb_Sheet_readRule_128 v1 v4 v5 v6 v7 n) (fun s => NL_Sheet_readRule_128 v1 v4 v5 s.1 s.2.1 s.2.2) := it_eq2 (fun s : Int × Int × NS => nb_Sheet_readRule_128 v1 v4 v5 s.1 s.2.1 s.2.2) (v6, v7, n)
noncomputable def nb_Sheet_readRule_12 (v1 : Int) (v3 : Int) (v4 : Int) (v5 : Int) (v6 : Int) (v7 : Int) (n : NS) : Option ((Int × Int × NS) ⊕ (NS)) :=
  if v3 < v7 then
    some (.inr n)
  else
    if v3 < v6 then
      some (.inr n)
    else
      if (n 9 0 13) < 40 then
        (N_Sheet_indexOf v1 v6 v3 44 n).bind fun z6 =>
        (N_Sheet_takeSelector v1 v6 z6 (n 9 0 13) n).bind <| u2 fun z11 n14 =>
        ix (n14 9 0 13) 41 <|
        st (nw n14 34 0 (n14 9 0 13) v5) fun n20 =>
        ck ((n20 9 0 13) + 1) <|
        st (nw n20 9 0 13 ((n20 9 0 13) + 1)) fun n26 =>
        ck (z6 + 1) <|
        ck (v7 + 1) <|
        some (.inl (z6 + 1, v7 + 1, n26))
      else
        some (.inr n)
theorem fb_Sheet_readRule_12 {w y : Prop} {g : g_S} {n : NS} {m : YS} (hw : w) {xv1 : Nat} {v1 : Int} (ev1 : xv1 = Int.toNat v1) (rv1 : 0 ≤ v1 ∧ lc (Int.toNat v1) = (99, v1)) {xv3 : Int32} {v3 : Int} (ev3 : xv3 = Int32.ofInt v3) (rv3 : inR v3) {xv4 : Int32} {v4 : Int} (ev4 : xv4 = Int32.ofInt v4) (rv4 : inR v4) {xv5 : Int32} {v5 : Int} (ev5 : xv5 = Int32.ofInt v5) (rv5 : inR v5) {xv6 : Int32} {v6 : Int} (ev6 : xv6 = Int32.ofInt v6) (rv6 : inR v6) {xv7 : Int32} {v7 : Int} (ev7 : xv7 = Int32.ofInt v7) (rv7 : inR v7) (hR : RC w y g n m) : Rf (RS (fun a b => RI a.1 b.1 ∧ RI a.2.1 b.2.1 ∧ RC w y a.2.2 b.2.2 m) (fun a b => RC w y a b m)) (b_Sheet_readRule_12 1650 xv1 xv3 xv4 xv5 xv6 xv7 g) (nb_Sheet_readRule_12 v1 v3 v4 v5 v6 v7 n) := by
  subst ev1
  subst ev3
  subst ev4
  subst ev5
  subst ev6
  subst ev7
  unfold b_Sheet_readRule_12 nb_Sheet_readRule_12
  refine rf_lt rfl rfl rv3 rv7 ?_ ?_
  · exact rf_ok (by exact hR)
  · refine rf_lt rfl rfl rv3 rv6 ?_ ?_
    · exact rf_ok (by exact hR)
    · refine c_I (s := 13) hR (sK9 hR hw) rfl rfl (fun h3 => ?_)
      refine rf_lt rfl (e_n 40) h3 (show inR 40 by decide) ?_ ?_
      · refine rf_bind (f_Sheet_indexOf rfl rv1 rfl rv6 rfl rv3 (e_n 44) (show inR 44 by decide) hR) (fun a8 z6 h => ?_)
        obtain ⟨rfl, r7⟩ := h
        refine c_I (s := 13) hR (sK9 hR hw) rfl rfl (fun h9 => ?_)
        refine v_c2 (sK9 hR hw).1 ?_
        refine rf_c2 (f_Sheet_takeSelector hw rfl rv1 rfl rv6 rfl r7 rfl h9 hR) (fun a13 g16 b h => ?_)
        obtain ⟨z11, n14⟩ := b
        refine rf_v2 ?_
        obtain ⟨rfl, r12⟩ := (show RZ a13 z11 from h.1)
        have hR15 : RC w y g16 n14 m := h.2
        refine c_S hR15 hw (sK9 hR15 hw) (by decide) (show srf 9 0 3 = some 1653 from rfl) ?_
        refine c_I (s := 13) hR15 (sK9 hR15 hw) rfl rfl (fun h18 => ?_)
        refine t_I (L := 41) hR15 (sA34 hR15 hw) (lA34 hR15 hw) rfl rfl h18 rfl rv5 (fun g22 n20 hR21 => ?_)
        refine c_I (s := 13) hR21 (sK9 hR21 hw) rfl rfl (fun h23 => ?_)
        refine rf_ck (fun h24 => ?_)
        refine p_I (s := 13) hR21 (sK9 hR21 hw) rfl ⟨rfl, rfl, by decide⟩ (e_add rfl (e_n 1)) h24 (fun g28 n26 hR27 => ?_)
        refine rf_ck (fun h29 => ?_)
        refine rf_ck (fun h30 => ?_)
        exact rf_ok (by exact ⟨⟨(e_add rfl (e_n 1)), h29⟩, ⟨(e_add rfl (e_n 1)), h30⟩, hR27⟩)
      · exact rf_ok (by exact hR)
noncomputable def NL_Sheet_readRule_12 (v1 : Int) (v3 : Int) (v4 : Int) (v5 : Int) (v6 : Int) (v7 : Int) (n : NS) : Option (NS) :=
  it (fun s : Int × Int × NS => nb_Sheet_readRule_12 v1 v3 v4 v5 s.1 s.2.1 s.2.2) (v6, v7, n)
theorem fL_Sheet_readRule_12 {w y : Prop} {g : g_S} {n : NS} {m : YS} (hw : w) {xv1 : Nat} {v1 : Int} (ev1 : xv1 = Int.toNat v1) (rv1 : 0 ≤ v1 ∧ lc (Int.toNat v1) = (99, v1)) {xv3 : Int32} {v3 : Int} (ev3 : xv3 = Int32.ofInt v3) (rv3 : inR v3) {xv4 : Int32} {v4 : Int} (ev4 : xv4 = Int32.ofInt v4) (rv4 : inR v4) {xv5 : Int32} {v5 : Int} (ev5 : xv5 = Int32.ofInt v5) (rv5 : inR v5) {xv6 : Int32} {v6 : Int} (ev6 : xv6 = Int32.ofInt v6) (rv6 : inR v6) {xv7 : Int32} {v7 : Int} (ev7 : xv7 = Int32.ofInt v7) (rv7 : inR v7) (hR : RC w y g n m) : Rf (fun a b => RC w y a b m) (L_Sheet_readRule_12 1650 xv1 xv3 xv4 xv5 xv6 xv7 g) (NL_Sheet_readRule_12 v1 v3 v4 v5 v6 v7 n) := by
  subst ev1
  subst ev3
  subst ev4
  subst ev5
  subst ev6
  subst ev7
  unfold L_Sheet_readRule_12 NL_Sheet_readRule_12
  refine rf_it (I := (fun a b => RI a.1 b.1 ∧ RI a.2.1 b.2.1 ∧ RC w y a.2.2 b.2.2 m)) (fun s t h => ?_) ⟨⟨rfl, rv6⟩, ⟨rfl, rv7⟩, hR⟩
  exact fb_Sheet_readRule_12 hw rfl rv1 rfl rv3 rfl rv4 rfl rv5 h.1.1 h.1.2 h.2.1.1 h.2.1.2 h.2.2
theorem NL_Sheet_readRule_12_eq (v1 : Int) (v3 : Int) (v4 : Int) (v5 : Int) (v6 : Int) (v7 : Int) (n : NS) : NL_Sheet_readRule_12 v1 v3 v4 v5 v6 v7 n = itc (nb_Sheet_readRule_12 v1 v3 v4 v5 v6 v7 n) (fun s => NL_Sheet_readRule_12 v1 v3 v4 v5 s.1 s.2.1 s.2.2) := it_eq2 (fun s : Int × Int × NS => nb_Sheet_readRule_12 v1 v3 v4 v5 s.1 s.2.1 s.2.2) (v6, v7, n)
noncomputable def nk_Sheet_readRule_91 (v1 : Int) (v3 : Int) (v4 : Int) (v5 : Int) (n : NS) : Option (NS) :=
  if v5 = 40 then
    some n
  else
    ck (v5 * 11) <|
    ck (v5 + 1) <|
    ck ((v5 + 1) * 11) <|
    (N_Arrays_fill (v5 * 11) ((v5 + 1) * 11) (-1) n).bind fun n8 =>
    ck (v3 + 1) <|
    (NL_Sheet_readRule_128 v1 v4 v5 (v3 + 1) (v3 + 1) n8).bind <| fun n12 =>
    some n12
theorem fk_Sheet_readRule_91 {w y : Prop} {g : g_S} {n : NS} {m : YS} (hw : w) {xv1 : Nat} {v1 : Int} (ev1 : xv1 = Int.toNat v1) (rv1 : 0 ≤ v1 ∧ lc (Int.toNat v1) = (99, v1)) {xv3 : Int32} {v3 : Int} (ev3 : xv3 = Int32.ofInt v3) (rv3 : inR v3) {xv4 : Int32} {v4 : Int} (ev4 : xv4 = Int32.ofInt v4) (rv4 : inR v4) {xv5 : Int32} {v5 : Int} (ev5 : xv5 = Int32.ofInt v5) (rv5 : inR v5) (hR : RC w y g n m) : Rf (fun a b => RC w y a b m) (k_Sheet_readRule_91 1650 xv1 xv3 xv4 xv5 g) (nk_Sheet_readRule_91 v1 v3 v4 v5 n) := by
  subst ev1
  subst ev3
  subst ev4
  subst ev5
  unfold k_Sheet_readRule_91 nk_Sheet_readRule_91
  refine rf_eq rfl (e_n 40) rv5 (show inR 40 by decide) ?_ ?_
  · exact rf_ok (by exact hR)
  · refine c_S hR hw (sK9 hR hw) (by decide) (show srf 9 0 8 = some 1658 from rfl) ?_
    refine rf_ck (fun h4 => ?_)
    refine rf_ck (fun h5 => ?_)
    refine rf_ck (fun h6 => ?_)
    refine rf_bind (f_Arrays_fill hw (e_mul rfl (e_n 11)) h4 (e_mul (e_add rfl (e_n 1)) (e_n 11)) h6 (e_m 1) (show inR (-1) by decide) hR) (fun g10 n8 hR9 => ?_)
    refine rf_ck (fun h11 => ?_)
    refine rf_bind (fL_Sheet_readRule_128 hw rfl rv1 rfl rv4 rfl rv5 (e_add rfl (e_n 1)) h11 (e_add rfl (e_n 1)) h11 hR9) (fun a13 n12 h => ?_)
    have hR14 : RC w y a13 n12 m := h
    exact rf_ok (by exact hR14)
noncomputable def N_Sheet_readRule (v1 : Int) (v2 : Int) (v3 : Int) (v4 : Int) (n : NS) : Option (NS) :=
  (NL_Sheet_readRule_12 v1 v3 v4 (n 9 0 13) v2 v2 n).bind <| fun n2 =>
  nk_Sheet_readRule_91 v1 v3 v4 (n 9 0 13) n2
theorem f_Sheet_readRule {w y : Prop} {g : g_S} {n : NS} {m : YS} (hw : w) {xv1 : Nat} {v1 : Int} (ev1 : xv1 = Int.toNat v1) (rv1 : 0 ≤ v1 ∧ lc (Int.toNat v1) = (99, v1)) {xv2 : Int32} {v2 : Int} (ev2 : xv2 = Int32.ofInt v2) (rv2 : inR v2) {xv3 : Int32} {v3 : Int} (ev3 : xv3 = Int32.ofInt v3) (rv3 : inR v3) {xv4 : Int32} {v4 : Int} (ev4 : xv4 = Int32.ofInt v4) (rv4 : inR v4) (hR : RC w y g n m) : Rf (fun a b => RC w y a b m) (M_Sheet_readRule 1650 xv1 xv2 xv3 xv4 g) (N_Sheet_readRule v1 v2 v3 v4 n) := by
  subst ev1
  subst ev2
  subst ev3
  subst ev4
  unfold M_Sheet_readRule N_Sheet_readRule
  refine c_I (s := 13) hR (sK9 hR hw) rfl rfl (fun h1 => ?_)
  refine rf_bind (fL_Sheet_readRule_12 hw rfl rv1 rfl rv3 rfl rv4 rfl h1 rfl rv2 rfl rv2 hR) (fun a3 n2 h => ?_)
  have hR4 : RC w y a3 n2 m := h
  exact fk_Sheet_readRule_91 hw rfl rv1 rfl rv3 rfl rv4 rfl h1 hR4
noncomputable def nk_Sheet_readSheet_71 (v1 : Int) (v2 : Int) (v4 : Int) (v5 : Int) (n : NS) : Option ((Int × Int × NS) ⊕ (NS)) :=
  ck (v5 + 1) <|
  ck (v4 + 1) <|
  some (.inl (v5 + 1, v4 + 1, n))
theorem fk_Sheet_readSheet_71 {w y : Prop} {g : g_S} {n : NS} {m : YS} (hw : w) {xv1 : Nat} {v1 : Int} (ev1 : xv1 = Int.toNat v1) (rv1 : 0 ≤ v1 ∧ lc (Int.toNat v1) = (99, v1)) {xv2 : Int32} {v2 : Int} (ev2 : xv2 = Int32.ofInt v2) (rv2 : inR v2) {xv4 : Int32} {v4 : Int} (ev4 : xv4 = Int32.ofInt v4) (rv4 : inR v4) {xv5 : Int32} {v5 : Int} (ev5 : xv5 = Int32.ofInt v5) (rv5 : inR v5) (hR : RC w y g n m) : Rf (RS (fun a b => RI a.1 b.1 ∧ RI a.2.1 b.2.1 ∧ RC w y a.2.2 b.2.2 m) (fun a b => RC w y a b m)) (k_Sheet_readSheet_71 1650 xv1 xv2 xv4 xv5 g) (nk_Sheet_readSheet_71 v1 v2 v4 v5 n) := by
  subst ev1
  subst ev2
  subst ev4
  subst ev5
  unfold k_Sheet_readSheet_71 nk_Sheet_readSheet_71
  refine rf_ck (fun h1 => ?_)
  refine rf_ck (fun h2 => ?_)
  exact rf_ok (by exact ⟨⟨(e_add rfl (e_n 1)), h1⟩, ⟨(e_add rfl (e_n 1)), h2⟩, hR⟩)
noncomputable def nb_Sheet_readSheet_5 (v1 : Int) (v2 : Int) (v3 : Int) (v4 : Int) (n : NS) : Option ((Int × Int × NS) ⊕ (NS)) :=
  if v4 < v2 then
    if v3 < v2 then
      (N_Sheet_indexOf v1 v3 v2 125 n).bind fun z4 =>
      (N_Sheet_indexOf v1 v3 z4 123 n).bind fun z8 =>
      if z4 < v2 then
        if z8 < z4 then
          (N_Sheet_areSelectors v1 v3 z8 n).bind <| u2 fun z14 n17 =>
          if z14 = 0 then
            nk_Sheet_readSheet_71 v1 v2 v4 z4 n17
          else
            (N_Sheet_readRule v1 v3 z8 z4 n17).bind fun n22 =>
            nk_Sheet_readSheet_71 v1 v2 v4 z4 n22
        else
          nk_Sheet_readSheet_71 v1 v2 v4 z4 n
      else
        nk_Sheet_readSheet_71 v1 v2 v4 z4 n
    else
      some (.inr n)
  else
    some (.inr n)
theorem fb_Sheet_readSheet_5 {w y : Prop} {g : g_S} {n : NS} {m : YS} (hw : w) {xv1 : Nat} {v1 : Int} (ev1 : xv1 = Int.toNat v1) (rv1 : 0 ≤ v1 ∧ lc (Int.toNat v1) = (99, v1)) {xv2 : Int32} {v2 : Int} (ev2 : xv2 = Int32.ofInt v2) (rv2 : inR v2) {xv3 : Int32} {v3 : Int} (ev3 : xv3 = Int32.ofInt v3) (rv3 : inR v3) {xv4 : Int32} {v4 : Int} (ev4 : xv4 = Int32.ofInt v4) (rv4 : inR v4) (hR : RC w y g n m) : Rf (RS (fun a b => RI a.1 b.1 ∧ RI a.2.1 b.2.1 ∧ RC w y a.2.2 b.2.2 m) (fun a b => RC w y a b m)) (b_Sheet_readSheet_5 1650 xv1 xv2 xv3 xv4 g) (nb_Sheet_readSheet_5 v1 v2 v3 v4 n) := by
  subst ev1
  subst ev2
  subst ev3
  subst ev4
  unfold b_Sheet_readSheet_5 nb_Sheet_readSheet_5
  refine rf_lt rfl rfl rv4 rv2 ?_ ?_
  · refine rf_lt rfl rfl rv3 rv2 ?_ ?_
    · refine rf_bind (f_Sheet_indexOf rfl rv1 rfl rv3 rfl rv2 (e_n 125) (show inR 125 by decide) hR) (fun a6 z4 h => ?_)
      obtain ⟨rfl, r5⟩ := h
      refine rf_bind (f_Sheet_indexOf rfl rv1 rfl rv3 rfl r5 (e_n 123) (show inR 123 by decide) hR) (fun a10 z8 h => ?_)
      obtain ⟨rfl, r9⟩ := h
      refine rf_lt rfl rfl r5 rv2 ?_ ?_
      · refine rf_lt rfl rfl r9 r5 ?_ ?_
        · refine v_c2 (sK9 hR hw).1 ?_
          refine rf_c2 (f_Sheet_areSelectors hw rfl rv1 rfl rv3 rfl r9 hR) (fun a16 g19 b h => ?_)
          obtain ⟨z14, n17⟩ := b
          refine rf_v2 ?_
          obtain ⟨rfl, r15⟩ := (show RZ a16 z14 from h.1)
          have hR18 : RC w y g19 n17 m := h.2
          refine rf_eq rfl (e_n 0) (inZ.r r15) (show inR 0 by decide) ?_ ?_
          · exact fk_Sheet_readSheet_71 hw rfl rv1 rfl rv2 rfl rv4 rfl r5 hR18
          · refine v_c (sK9 hR18 hw).1 ?_
            refine rf_bind (f_Sheet_readRule hw rfl rv1 rfl rv3 rfl r9 rfl r5 hR18) (fun g24 n22 hR23 => ?_)
            exact fk_Sheet_readSheet_71 hw rfl rv1 rfl rv2 rfl rv4 rfl r5 hR23
        · exact fk_Sheet_readSheet_71 hw rfl rv1 rfl rv2 rfl rv4 rfl r5 hR
      · exact fk_Sheet_readSheet_71 hw rfl rv1 rfl rv2 rfl rv4 rfl r5 hR
    · exact rf_ok (by exact hR)
  · exact rf_ok (by exact hR)
noncomputable def NL_Sheet_readSheet_5 (v1 : Int) (v2 : Int) (v3 : Int) (v4 : Int) (n : NS) : Option (NS) :=
  it (fun s : Int × Int × NS => nb_Sheet_readSheet_5 v1 v2 s.1 s.2.1 s.2.2) (v3, v4, n)
theorem fL_Sheet_readSheet_5 {w y : Prop} {g : g_S} {n : NS} {m : YS} (hw : w) {xv1 : Nat} {v1 : Int} (ev1 : xv1 = Int.toNat v1) (rv1 : 0 ≤ v1 ∧ lc (Int.toNat v1) = (99, v1)) {xv2 : Int32} {v2 : Int} (ev2 : xv2 = Int32.ofInt v2) (rv2 : inR v2) {xv3 : Int32} {v3 : Int} (ev3 : xv3 = Int32.ofInt v3) (rv3 : inR v3) {xv4 : Int32} {v4 : Int} (ev4 : xv4 = Int32.ofInt v4) (rv4 : inR v4) (hR : RC w y g n m) : Rf (fun a b => RC w y a b m) (L_Sheet_readSheet_5 1650 xv1 xv2 xv3 xv4 g) (NL_Sheet_readSheet_5 v1 v2 v3 v4 n) := by
  subst ev1
  subst ev2
  subst ev3
  subst ev4
  unfold L_Sheet_readSheet_5 NL_Sheet_readSheet_5
  refine rf_it (I := (fun a b => RI a.1 b.1 ∧ RI a.2.1 b.2.1 ∧ RC w y a.2.2 b.2.2 m)) (fun s t h => ?_) ⟨⟨rfl, rv3⟩, ⟨rfl, rv4⟩, hR⟩
  exact fb_Sheet_readSheet_5 hw rfl rv1 rfl rv2 h.1.1 h.1.2 h.2.1.1 h.2.1.2 h.2.2
theorem NL_Sheet_readSheet_5_eq (v1 : Int) (v2 : Int) (v3 : Int) (v4 : Int) (n : NS) : NL_Sheet_readSheet_5 v1 v2 v3 v4 n = itc (nb_Sheet_readSheet_5 v1 v2 v3 v4 n) (fun s => NL_Sheet_readSheet_5 v1 v2 s.1 s.2.1 s.2.2) := it_eq2 (fun s : Int × Int × NS => nb_Sheet_readSheet_5 v1 v2 s.1 s.2.1 s.2.2) (v3, v4, n)
noncomputable def N_Sheet_readSheet (v1 : Int) (v2 : Int) (n : NS) : Option (NS) :=
  (NL_Sheet_readSheet_5 v1 v2 0 0 n).bind <| fun n1 =>
  some n1
theorem f_Sheet_readSheet {w y : Prop} {g : g_S} {n : NS} {m : YS} (hw : w) {xv1 : Nat} {v1 : Int} (ev1 : xv1 = Int.toNat v1) (rv1 : 0 ≤ v1 ∧ lc (Int.toNat v1) = (99, v1)) {xv2 : Int32} {v2 : Int} (ev2 : xv2 = Int32.ofInt v2) (rv2 : inR v2) (hR : RC w y g n m) : Rf (fun a b => RC w y a b m) (M_Sheet_readSheet 1650 xv1 xv2 g) (N_Sheet_readSheet v1 v2 n) := by
  subst ev1
  subst ev2
  unfold M_Sheet_readSheet N_Sheet_readSheet
  refine rf_bind (fL_Sheet_readSheet_5 hw rfl rv1 rfl rv2 (e_n 0) (show inR 0 by decide) (e_n 0) (show inR 0 by decide) hR) (fun a2 n1 h => ?_)
  have hR3 : RC w y a2 n1 m := h
  exact rf_ok (by exact hR3)
noncomputable def N_Sheet_usual (v1 : Int) (v2 : Int) (n : NS) : Option (Int) :=
  if v2 = 0 then
    if (n 7 v1 0) = 15 then
      some 2
    else
      if 5 < (n 7 v1 0) then
        if (n 7 v1 0) = 11 then
          some 0
        else
          some 1
      else
        some 0
  else if v2 = 1 then
    if (n 7 v1 2) = (-1) then
      some 63
    else
      ck ((n 7 v1 2) * 11) <|
      ck (((n 7 v1 2) * 11) + 1) <|
      ix (((n 7 v1 2) * 11) + 1) 1320 <|
      some (n 41 0 (((n 7 v1 2) * 11) + 1))
  else if v2 = 2 then
    some (-1)
  else if v2 = 3 then
    if (n 7 v1 0) = 1 then
      some 2
    else
      if (n 7 v1 0) = 2 then
        some 2
      else
        if (n 7 v1 0) = 3 then
          some 2
        else
          some 0
  else if v2 = 4 then
    if (n 7 v1 0) = 3 then
      some 4
    else
      if (n 7 v1 0) = 14 then
        some 1
      else
        some 0
  else if v2 = 5 then
    if (n 7 v1 0) = 14 then
      some 1
    else
      if (n 7 v1 0) = 13 then
        some 1
      else
        if (n 7 v1 0) = 11 then
          some 1
        else
          some 0
  else if v2 = 6 then
    some (-1)
  else if v2 = 7 then
    some (-1)
  else if v2 = 8 then
    if (n 7 v1 0) = 2 then
      some 2
    else
      if (n 7 v1 2) = (-1) then
        some 1
      else
        ck ((n 7 v1 2) * 11) <|
        ck (((n 7 v1 2) * 11) + 8) <|
        ix (((n 7 v1 2) * 11) + 8) 1320 <|
        some (n 41 0 (((n 7 v1 2) * 11) + 8))
  else if v2 = 9 then
    if (n 7 v1 2) = (-1) then
      some 0
    else
      ck ((n 7 v1 2) * 11) <|
      ck (((n 7 v1 2) * 11) + 9) <|
      ix (((n 7 v1 2) * 11) + 9) 1320 <|
      some (n 41 0 (((n 7 v1 2) * 11) + 9))
  else if v2 = 10 then
    some 0
  else
    some (-1)
theorem f_Sheet_usual {w y : Prop} {g : g_S} {n : NS} {m : YS} (hw : w) {xv1 : Nat} {v1 : Int} (ev1 : xv1 = aNd v1) (rv1 : 0 ≤ v1 ∧ v1 ≤ 120) {xv2 : Int32} {v2 : Int} (ev2 : xv2 = Int32.ofInt v2) (rv2 : inR v2) (hR : RC w y g n m) : Rf (fun a b => RI a b) (M_Sheet_usual 1650 xv1 xv2 g) (N_Sheet_usual v1 v2 n) := by
  subst ev1
  subst ev2
  unfold M_Sheet_usual N_Sheet_usual
  refine c_I (s := 0) hR (ce_nd hR hw rv1) rfl rfl (fun h1 => ?_)
  refine rf_eq rfl (e_n 0) rv2 (show inR 0 by decide) ?_ ?_
  · refine rf_eq rfl (e_n 15) h1 (show inR 15 by decide) ?_ ?_
    · exact rf_ok (by exact ⟨(e_n 2), (show inR 2 by decide)⟩)
    · refine rf_lt (e_n 5) rfl (show inR 5 by decide) h1 ?_ ?_
      · refine rf_eq rfl (e_n 11) h1 (show inR 11 by decide) ?_ ?_
        · exact rf_ok (by exact ⟨(e_n 0), (show inR 0 by decide)⟩)
        · exact rf_ok (by exact ⟨(e_n 1), (show inR 1 by decide)⟩)
      · exact rf_ok (by exact ⟨(e_n 0), (show inR 0 by decide)⟩)
  refine rf_eq rfl (e_n 1) rv2 (show inR 1 by decide) ?_ ?_
  · refine c_I (s := 2) hR (ce_nd hR hw rv1) rfl rfl (fun h10 => ?_)
    refine rf_eq rfl (e_m 1) h10 (show inR (-1) by decide) ?_ ?_
    · exact rf_ok (by exact ⟨(e_n 63), (show inR 63 by decide)⟩)
    · refine c_S hR hw (sK9 hR hw) (by decide) (show srf 9 0 10 = some 1660 from rfl) ?_
      refine c_I (s := 2) hR (ce_nd hR hw rv1) rfl rfl (fun h14 => ?_)
      refine rf_ck (fun h15 => ?_)
      refine rf_ck (fun h16 => ?_)
      refine s_I (L := 1320) hR (sA41 hR hw) rfl (lA41 hR hw) rfl (e_add (e_mul rfl (e_n 11)) (e_n 1)) h16 (fun h17 h18 => ?_)
      exact rf_ok (by exact ⟨rfl, h18⟩)
  refine rf_eq rfl (e_n 2) rv2 (show inR 2 by decide) ?_ ?_
  · exact rf_ok (by exact ⟨(e_m 1), (show inR (-1) by decide)⟩)
  refine rf_eq rfl (e_n 3) rv2 (show inR 3 by decide) ?_ ?_
  · refine rf_eq rfl (e_n 1) h1 (show inR 1 by decide) ?_ ?_
    · exact rf_ok (by exact ⟨(e_n 2), (show inR 2 by decide)⟩)
    · refine rf_eq rfl (e_n 2) h1 (show inR 2 by decide) ?_ ?_
      · exact rf_ok (by exact ⟨(e_n 2), (show inR 2 by decide)⟩)
      · refine rf_eq rfl (e_n 3) h1 (show inR 3 by decide) ?_ ?_
        · exact rf_ok (by exact ⟨(e_n 2), (show inR 2 by decide)⟩)
        · exact rf_ok (by exact ⟨(e_n 0), (show inR 0 by decide)⟩)
  refine rf_eq rfl (e_n 4) rv2 (show inR 4 by decide) ?_ ?_
  · refine rf_eq rfl (e_n 3) h1 (show inR 3 by decide) ?_ ?_
    · exact rf_ok (by exact ⟨(e_n 4), (show inR 4 by decide)⟩)
    · refine rf_eq rfl (e_n 14) h1 (show inR 14 by decide) ?_ ?_
      · exact rf_ok (by exact ⟨(e_n 1), (show inR 1 by decide)⟩)
      · exact rf_ok (by exact ⟨(e_n 0), (show inR 0 by decide)⟩)
  refine rf_eq rfl (e_n 5) rv2 (show inR 5 by decide) ?_ ?_
  · refine rf_eq rfl (e_n 14) h1 (show inR 14 by decide) ?_ ?_
    · exact rf_ok (by exact ⟨(e_n 1), (show inR 1 by decide)⟩)
    · refine rf_eq rfl (e_n 13) h1 (show inR 13 by decide) ?_ ?_
      · exact rf_ok (by exact ⟨(e_n 1), (show inR 1 by decide)⟩)
      · refine rf_eq rfl (e_n 11) h1 (show inR 11 by decide) ?_ ?_
        · exact rf_ok (by exact ⟨(e_n 1), (show inR 1 by decide)⟩)
        · exact rf_ok (by exact ⟨(e_n 0), (show inR 0 by decide)⟩)
  refine rf_eq rfl (e_n 6) rv2 (show inR 6 by decide) ?_ ?_
  · exact rf_ok (by exact ⟨(e_m 1), (show inR (-1) by decide)⟩)
  refine rf_eq rfl (e_n 7) rv2 (show inR 7 by decide) ?_ ?_
  · exact rf_ok (by exact ⟨(e_m 1), (show inR (-1) by decide)⟩)
  refine rf_eq rfl (e_n 8) rv2 (show inR 8 by decide) ?_ ?_
  · refine rf_eq rfl (e_n 2) h1 (show inR 2 by decide) ?_ ?_
    · exact rf_ok (by exact ⟨(e_n 2), (show inR 2 by decide)⟩)
    · refine c_I (s := 2) hR (ce_nd hR hw rv1) rfl rfl (fun h44 => ?_)
      refine rf_eq rfl (e_m 1) h44 (show inR (-1) by decide) ?_ ?_
      · exact rf_ok (by exact ⟨(e_n 1), (show inR 1 by decide)⟩)
      · refine c_S hR hw (sK9 hR hw) (by decide) (show srf 9 0 10 = some 1660 from rfl) ?_
        refine c_I (s := 2) hR (ce_nd hR hw rv1) rfl rfl (fun h48 => ?_)
        refine rf_ck (fun h49 => ?_)
        refine rf_ck (fun h50 => ?_)
        refine s_I (L := 1320) hR (sA41 hR hw) rfl (lA41 hR hw) rfl (e_add (e_mul rfl (e_n 11)) (e_n 8)) h50 (fun h51 h52 => ?_)
        exact rf_ok (by exact ⟨rfl, h52⟩)
  refine rf_eq rfl (e_n 9) rv2 (show inR 9 by decide) ?_ ?_
  · refine c_I (s := 2) hR (ce_nd hR hw rv1) rfl rfl (fun h54 => ?_)
    refine rf_eq rfl (e_m 1) h54 (show inR (-1) by decide) ?_ ?_
    · exact rf_ok (by exact ⟨(e_n 0), (show inR 0 by decide)⟩)
    · refine c_S hR hw (sK9 hR hw) (by decide) (show srf 9 0 10 = some 1660 from rfl) ?_
      refine c_I (s := 2) hR (ce_nd hR hw rv1) rfl rfl (fun h58 => ?_)
      refine rf_ck (fun h59 => ?_)
      refine rf_ck (fun h60 => ?_)
      refine s_I (L := 1320) hR (sA41 hR hw) rfl (lA41 hR hw) rfl (e_add (e_mul rfl (e_n 11)) (e_n 9)) h60 (fun h61 h62 => ?_)
      exact rf_ok (by exact ⟨rfl, h62⟩)
  refine rf_eq rfl (e_n 10) rv2 (show inR 10 by decide) ?_ ?_
  · exact rf_ok (by exact ⟨(e_n 0), (show inR 0 by decide)⟩)
  exact rf_ok (by exact ⟨(e_m 1), (show inR (-1) by decide)⟩)
noncomputable def nk_Sheet_apply_102 (v1 : Int) (v2 : Int) (v3 : Int) (w0 : Int) (w1 : Int) (n : NS) : Option ((Int × NS) ⊕ (NS)) :=
  ix w1 1320 <|
  st (nw n 41 0 w1 w0) fun n2 =>
  ck (v3 + 1) <|
  some (.inl (v3 + 1, n2))
theorem fk_Sheet_apply_102 {w y : Prop} {g : g_S} {n : NS} {m : YS} (hw : w) {xv1 : Int32} {v1 : Int} (ev1 : xv1 = Int32.ofInt v1) (rv1 : inR v1) {xv2 : Int32} {v2 : Int} (ev2 : xv2 = Int32.ofInt v2) (rv2 : inR v2) {xv3 : Int32} {v3 : Int} (ev3 : xv3 = Int32.ofInt v3) (rv3 : inR v3) {xw0 : Int32} {w0 : Int} (ew0 : xw0 = Int32.ofInt w0) (rw0 : inR w0) {xw1 : Int32} {w1 : Int} (ew1 : xw1 = Int32.ofInt w1) (rw1 : inR w1) (hR : RC w y g n m) : Rf (RS (fun a b => RI a.1 b.1 ∧ RC w y a.2 b.2 m) (fun a b => RC w y a b m)) (k_Sheet_apply_102 1650 xv1 xv2 xv3 xw0 xw1 1660 g) (nk_Sheet_apply_102 v1 v2 v3 w0 w1 n) := by
  subst ev1
  subst ev2
  subst ev3
  subst ew0
  subst ew1
  unfold k_Sheet_apply_102 nk_Sheet_apply_102
  refine t_I (L := 1320) hR (sA41 hR hw) (lA41 hR hw) rfl rfl rw1 rfl rw0 (fun g4 n2 hR3 => ?_)
  refine rf_ck (fun h5 => ?_)
  exact rf_ok (by exact ⟨⟨(e_add rfl (e_n 1)), h5⟩, hR3⟩)
noncomputable def nk_Sheet_apply_51 (v1 : Int) (v2 : Int) (v3 : Int) (v4 : Int) (w0 : Int) (n : NS) : Option ((Int × NS) ⊕ (NS)) :=
  if v4 = (-1) then
    ck (v3 + 1) <|
    some (.inl (v3 + 1, n))
  else
    ix v3 11 <|
    if w0 < (n 40 0 v3) then
      ck (v3 + 1) <|
      some (.inl (v3 + 1, n))
    else
      ix v3 11 <|
      st (nw n 40 0 v3 w0) fun n10 =>
      ck (v2 + v3) <|
      if v4 < 65536 then
        nk_Sheet_apply_102 v1 v2 v3 v4 (v2 + v3) n10
      else
        ck (v4 - 65536) <|
        nk_Sheet_apply_102 v1 v2 v3 (v4 - 65536) (v2 + v3) n10
theorem fk_Sheet_apply_51 {w y : Prop} {g : g_S} {n : NS} {m : YS} (hw : w) {xv1 : Int32} {v1 : Int} (ev1 : xv1 = Int32.ofInt v1) (rv1 : inR v1) {xv2 : Int32} {v2 : Int} (ev2 : xv2 = Int32.ofInt v2) (rv2 : inR v2) {xv3 : Int32} {v3 : Int} (ev3 : xv3 = Int32.ofInt v3) (rv3 : inR v3) {xv4 : Int32} {v4 : Int} (ev4 : xv4 = Int32.ofInt v4) (rv4 : inR v4) {xw0 : Int32} {w0 : Int} (ew0 : xw0 = Int32.ofInt w0) (rw0 : inR w0) (hR : RC w y g n m) : Rf (RS (fun a b => RI a.1 b.1 ∧ RC w y a.2 b.2 m) (fun a b => RC w y a b m)) (k_Sheet_apply_51 1650 xv1 xv2 xv3 xv4 xw0 g) (nk_Sheet_apply_51 v1 v2 v3 v4 w0 n) := by
  subst ev1
  subst ev2
  subst ev3
  subst ev4
  subst ew0
  unfold k_Sheet_apply_51 nk_Sheet_apply_51
  refine rf_eq rfl (e_m 1) rv4 (show inR (-1) by decide) ?_ ?_
  · refine rf_ck (fun h2 => ?_)
    exact rf_ok (by exact ⟨⟨(e_add rfl (e_n 1)), h2⟩, hR⟩)
  · refine c_S hR hw (sK9 hR hw) (by decide) (show srf 9 0 9 = some 1659 from rfl) ?_
    refine s_I (L := 11) hR (sA40 hR hw) rfl (lA40 hR hw) rfl rfl rv3 (fun h4 h5 => ?_)
    refine rf_lt rfl rfl rw0 h5 ?_ ?_
    · refine rf_ck (fun h7 => ?_)
      exact rf_ok (by exact ⟨⟨(e_add rfl (e_n 1)), h7⟩, hR⟩)
    · refine c_S hR hw (sK9 hR hw) (by decide) (show srf 9 0 9 = some 1659 from rfl) ?_
      refine t_I (L := 11) hR (sA40 hR hw) (lA40 hR hw) rfl rfl rv3 rfl rw0 (fun g12 n10 hR11 => ?_)
      refine c_S hR11 hw (sK9 hR11 hw) (by decide) (show srf 9 0 10 = some 1660 from rfl) ?_
      refine rf_ck (fun h14 => ?_)
      refine rf_lt rfl (e_n 65536) rv4 (show inR 65536 by decide) ?_ ?_
      · exact fk_Sheet_apply_102 hw rfl rv1 rfl rv2 rfl rv3 rfl rv4 (e_add rfl rfl) h14 hR11
      · refine rf_ck (fun h18 => ?_)
        exact fk_Sheet_apply_102 hw rfl rv1 rfl rv2 rfl rv3 (e_sub rfl (e_n 65536)) h18 (e_add rfl rfl) h14 hR11
noncomputable def nb_Sheet_apply_2 (v1 : Int) (v2 : Int) (v3 : Int) (n : NS) : Option ((Int × NS) ⊕ (NS)) :=
  if v3 < 11 then
    ix v1 41 <|
    ck ((n 34 0 v1) * 11) <|
    ck (((n 34 0 v1) * 11) + v3) <|
    ix (((n 34 0 v1) * 11) + v3) 440 <|
    if (n 39 0 (((n 34 0 v1) * 11) + v3)) < 65536 then
      ix v1 41 <|
      nk_Sheet_apply_51 v1 v2 v3 (n 39 0 (((n 34 0 v1) * 11) + v3)) (n 33 0 v1) n
    else
      ix v1 41 <|
      ck ((n 33 0 v1) + 65536) <|
      nk_Sheet_apply_51 v1 v2 v3 (n 39 0 (((n 34 0 v1) * 11) + v3)) ((n 33 0 v1) + 65536) n
  else
    some (.inr n)
theorem fb_Sheet_apply_2 {w y : Prop} {g : g_S} {n : NS} {m : YS} (hw : w) {xv1 : Int32} {v1 : Int} (ev1 : xv1 = Int32.ofInt v1) (rv1 : inR v1) {xv2 : Int32} {v2 : Int} (ev2 : xv2 = Int32.ofInt v2) (rv2 : inR v2) {xv3 : Int32} {v3 : Int} (ev3 : xv3 = Int32.ofInt v3) (rv3 : inR v3) (hR : RC w y g n m) : Rf (RS (fun a b => RI a.1 b.1 ∧ RC w y a.2 b.2 m) (fun a b => RC w y a b m)) (b_Sheet_apply_2 1650 xv1 xv2 xv3 g) (nb_Sheet_apply_2 v1 v2 v3 n) := by
  subst ev1
  subst ev2
  subst ev3
  unfold b_Sheet_apply_2 nb_Sheet_apply_2
  refine rf_lt rfl (e_n 11) rv3 (show inR 11 by decide) ?_ ?_
  · refine c_S hR hw (sK9 hR hw) (by decide) (show srf 9 0 8 = some 1658 from rfl) ?_
    refine c_S hR hw (sK9 hR hw) (by decide) (show srf 9 0 3 = some 1653 from rfl) ?_
    refine s_I (L := 41) hR (sA34 hR hw) rfl (lA34 hR hw) rfl rfl rv1 (fun h4 h5 => ?_)
    refine rf_ck (fun h6 => ?_)
    refine rf_ck (fun h7 => ?_)
    refine s_I (L := 440) hR (sA39 hR hw) rfl (lA39 hR hw) rfl (e_add (e_mul rfl (e_n 11)) rfl) h7 (fun h8 h9 => ?_)
    refine rf_lt rfl (e_n 65536) h9 (show inR 65536 by decide) ?_ ?_
    · refine c_S hR hw (sK9 hR hw) (by decide) (show srf 9 0 2 = some 1652 from rfl) ?_
      refine s_I (L := 41) hR (sA33 hR hw) rfl (lA33 hR hw) rfl rfl rv1 (fun h13 h14 => ?_)
      exact fk_Sheet_apply_51 hw rfl rv1 rfl rv2 rfl rv3 rfl h9 rfl h14 hR
    · refine c_S hR hw (sK9 hR hw) (by decide) (show srf 9 0 2 = some 1652 from rfl) ?_
      refine s_I (L := 41) hR (sA33 hR hw) rfl (lA33 hR hw) rfl rfl rv1 (fun h16 h17 => ?_)
      refine rf_ck (fun h19 => ?_)
      exact fk_Sheet_apply_51 hw rfl rv1 rfl rv2 rfl rv3 rfl h9 (e_add rfl (e_n 65536)) h19 hR
  · exact rf_ok (by exact hR)
noncomputable def NL_Sheet_apply_2 (v1 : Int) (v2 : Int) (v3 : Int) (n : NS) : Option (NS) :=
  it (fun s : Int × NS => nb_Sheet_apply_2 v1 v2 s.1 s.2) (v3, n)
theorem fL_Sheet_apply_2 {w y : Prop} {g : g_S} {n : NS} {m : YS} (hw : w) {xv1 : Int32} {v1 : Int} (ev1 : xv1 = Int32.ofInt v1) (rv1 : inR v1) {xv2 : Int32} {v2 : Int} (ev2 : xv2 = Int32.ofInt v2) (rv2 : inR v2) {xv3 : Int32} {v3 : Int} (ev3 : xv3 = Int32.ofInt v3) (rv3 : inR v3) (hR : RC w y g n m) : Rf (fun a b => RC w y a b m) (L_Sheet_apply_2 1650 xv1 xv2 xv3 g) (NL_Sheet_apply_2 v1 v2 v3 n) := by
  subst ev1
  subst ev2
  subst ev3
  unfold L_Sheet_apply_2 NL_Sheet_apply_2
  refine rf_it (I := (fun a b => RI a.1 b.1 ∧ RC w y a.2 b.2 m)) (fun s t h => ?_) ⟨⟨rfl, rv3⟩, hR⟩
  exact fb_Sheet_apply_2 hw rfl rv1 rfl rv2 h.1.1 h.1.2 h.2
theorem NL_Sheet_apply_2_eq (v1 : Int) (v2 : Int) (v3 : Int) (n : NS) : NL_Sheet_apply_2 v1 v2 v3 n = itc (nb_Sheet_apply_2 v1 v2 v3 n) (fun s => NL_Sheet_apply_2 v1 v2 s.1 s.2) := it_eq2 (fun s : Int × NS => nb_Sheet_apply_2 v1 v2 s.1 s.2) (v3, n)
noncomputable def N_Sheet_apply (v1 : Int) (v2 : Int) (n : NS) : Option (NS) :=
  (NL_Sheet_apply_2 v1 v2 0 n).bind <| fun n1 =>
  some n1
theorem f_Sheet_apply {w y : Prop} {g : g_S} {n : NS} {m : YS} (hw : w) {xv1 : Int32} {v1 : Int} (ev1 : xv1 = Int32.ofInt v1) (rv1 : inR v1) {xv2 : Int32} {v2 : Int} (ev2 : xv2 = Int32.ofInt v2) (rv2 : inR v2) (hR : RC w y g n m) : Rf (fun a b => RC w y a b m) (M_Sheet_apply 1650 xv1 xv2 g) (N_Sheet_apply v1 v2 n) := by
  subst ev1
  subst ev2
  unfold M_Sheet_apply N_Sheet_apply
  refine rf_bind (fL_Sheet_apply_2 hw rfl rv1 rfl rv2 (e_n 0) (show inR 0 by decide) hR) (fun a2 n1 h => ?_)
  have hR3 : RC w y a2 n1 m := h
  exact rf_ok (by exact hR3)
noncomputable def N_Node_isPieceTag (v0 : Int) (n : NS) : Option (Int) :=
  if (n 7 v0 0) < 12 then
    some 0
  else
    if 14 < (n 7 v0 0) then
      some 0
    else
      some 1
theorem f_Node_isPieceTag {w y : Prop} {g : g_S} {n : NS} {m : YS} (hw : w) {xv0 : Nat} {v0 : Int} (ev0 : xv0 = aNd v0) (rv0 : 0 ≤ v0 ∧ v0 ≤ 120) (hR : RC w y g n m) : Rf (fun a b => RZ a b) (M_Node_isPieceTag xv0 g) (N_Node_isPieceTag v0 n) := by
  subst ev0
  unfold M_Node_isPieceTag N_Node_isPieceTag
  refine c_I (s := 0) hR (ce_nd hR hw rv0) rfl rfl (fun h1 => ?_)
  refine rf_lt rfl (e_n 12) h1 (show inR 12 by decide) ?_ ?_
  · exact rf_ok (by exact ⟨(e_n 0), (.inl rfl)⟩)
  · refine c_I (s := 0) hR (ce_nd hR hw rv0) rfl rfl (fun h4 => ?_)
    refine rf_lt (e_n 14) rfl (show inR 14 by decide) h4 ?_ ?_
    · exact rf_ok (by exact ⟨(e_n 0), (.inl rfl)⟩)
    · exact rf_ok (by exact ⟨(e_n 1), (.inr rfl)⟩)
