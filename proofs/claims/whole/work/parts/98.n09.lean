/-! methods on numbers, group 9 -/
noncomputable def nb_Y_tick_48 (v2 : Int) (v4 : Int) (v5 : Int) (m : YS) : Option ((Int × Int) ⊕ (Int)) :=
  if v5 < (m 166 0) then
    ix v5 20 <|
    if (m 25 0) < (m 168 v5) then
      ck (v5 + 1) <|
      some (.inl (v4, v5 + 1))
    else
      if v4 = (-1) then
        ck (v5 + 1) <|
        some (.inl (v5, v5 + 1))
      else
        ix v5 20 <|
        ix v4 20 <|
        if (m 168 v5) < (m 168 v4) then
          ck (v5 + 1) <|
          some (.inl (v5, v5 + 1))
        else
          ix v5 20 <|
          ix v4 20 <|
          if (m 168 v5) = (m 168 v4) then
            ix v5 20 <|
            ix v4 20 <|
            if (m 169 v5) < (m 169 v4) then
              ck (v5 + 1) <|
              some (.inl (v5, v5 + 1))
            else
              ck (v5 + 1) <|
              some (.inl (v4, v5 + 1))
          else
            ck (v5 + 1) <|
            some (.inl (v4, v5 + 1))
  else
    some (.inr v4)
theorem fb_Y_tick_48 {w y : Prop} {g : g_S} {n : NS} {m : YS} (hy : y) {xv2 : Int32} {v2 : Int} (ev2 : xv2 = Int32.ofInt v2) (rv2 : inR v2) {xv4 : Int32} {v4 : Int} (ev4 : xv4 = Int32.ofInt v4) (rv4 : inR v4) {xv5 : Int32} {v5 : Int} (ev5 : xv5 = Int32.ofInt v5) (rv5 : inR v5) (hR : RC w y g n m) : Rf (RS (fun a b => RI a.1 b.1 ∧ RI a.2 b.2) (fun a b => RI a b)) (b_Y_tick_48 1838 xv2 xv4 xv5 g) (nb_Y_tick_48 v2 v4 v5 m) := by
  subst ev2
  subst ev4
  subst ev5
  unfold b_Y_tick_48 nb_Y_tick_48
  refine y_I hR hy yk166 yt166 (fun h1 => ?_)
  refine rf_lt rfl rfl rv5 h1 ?_ ?_
  · refine y_Q hR hy ya168.1 (by decide) ?_
    refine y_aI hR hy ya168 yl168 rfl rv5 (fun h4 h5 => ?_)
    refine y_I hR hy yk25 yt25 (fun h6 => ?_)
    refine rf_lt rfl rfl h6 h5 ?_ ?_
    · refine rf_ck (fun h8 => ?_)
      exact rf_ok (by exact ⟨⟨rfl, rv4⟩, ⟨(e_add rfl (e_n 1)), h8⟩⟩)
    · refine rf_eq rfl (e_m 1) rv4 (show inR (-1) by decide) ?_ ?_
      · refine rf_ck (fun h10 => ?_)
        exact rf_ok (by exact ⟨⟨rfl, rv5⟩, ⟨(e_add rfl (e_n 1)), h10⟩⟩)
      · refine y_Q hR hy ya168.1 (by decide) ?_
        refine y_aI hR hy ya168 yl168 rfl rv5 (fun h12 h13 => ?_)
        refine y_Q hR hy ya168.1 (by decide) ?_
        refine y_aI hR hy ya168 yl168 rfl rv4 (fun h15 h16 => ?_)
        refine rf_lt rfl rfl h13 h16 ?_ ?_
        · refine rf_ck (fun h18 => ?_)
          exact rf_ok (by exact ⟨⟨rfl, rv5⟩, ⟨(e_add rfl (e_n 1)), h18⟩⟩)
        · refine y_Q hR hy ya168.1 (by decide) ?_
          refine y_aI hR hy ya168 yl168 rfl rv5 (fun h20 h21 => ?_)
          refine y_Q hR hy ya168.1 (by decide) ?_
          refine y_aI hR hy ya168 yl168 rfl rv4 (fun h23 h24 => ?_)
          refine rf_eq rfl rfl h21 h24 ?_ ?_
          · refine y_Q hR hy ya169.1 (by decide) ?_
            refine y_aI hR hy ya169 yl169 rfl rv5 (fun h27 h28 => ?_)
            refine y_Q hR hy ya169.1 (by decide) ?_
            refine y_aI hR hy ya169 yl169 rfl rv4 (fun h30 h31 => ?_)
            refine rf_lt rfl rfl h28 h31 ?_ ?_
            · refine rf_ck (fun h33 => ?_)
              exact rf_ok (by exact ⟨⟨rfl, rv5⟩, ⟨(e_add rfl (e_n 1)), h33⟩⟩)
            · refine rf_ck (fun h34 => ?_)
              exact rf_ok (by exact ⟨⟨rfl, rv4⟩, ⟨(e_add rfl (e_n 1)), h34⟩⟩)
          · refine rf_ck (fun h35 => ?_)
            exact rf_ok (by exact ⟨⟨rfl, rv4⟩, ⟨(e_add rfl (e_n 1)), h35⟩⟩)
  · exact rf_ok (by exact ⟨rfl, rv4⟩)
noncomputable def NL_Y_tick_48 (v2 : Int) (v4 : Int) (v5 : Int) (m : YS) : Option (Int) :=
  it (fun s : Int × Int => nb_Y_tick_48 v2 s.1 s.2 m) (v4, v5)
theorem fL_Y_tick_48 {w y : Prop} {g : g_S} {n : NS} {m : YS} (hy : y) {xv2 : Int32} {v2 : Int} (ev2 : xv2 = Int32.ofInt v2) (rv2 : inR v2) {xv4 : Int32} {v4 : Int} (ev4 : xv4 = Int32.ofInt v4) (rv4 : inR v4) {xv5 : Int32} {v5 : Int} (ev5 : xv5 = Int32.ofInt v5) (rv5 : inR v5) (hR : RC w y g n m) : Rf (fun a b => RI a b) (L_Y_tick_48 1838 xv2 xv4 xv5 g) (NL_Y_tick_48 v2 v4 v5 m) := by
  subst ev2
  subst ev4
  subst ev5
  unfold L_Y_tick_48 NL_Y_tick_48
  refine rf_it (I := (fun a b => RI a.1 b.1 ∧ RI a.2 b.2)) (fun s t h => ?_) ⟨⟨rfl, rv4⟩, ⟨rfl, rv5⟩⟩
  exact fb_Y_tick_48 hy rfl rv2 h.1.1 h.1.2 h.2.1 h.2.2 hR
theorem NL_Y_tick_48_eq (v2 : Int) (v4 : Int) (v5 : Int) (m : YS) : NL_Y_tick_48 v2 v4 v5 m = itc (nb_Y_tick_48 v2 v4 v5 m) (fun s => NL_Y_tick_48 v2 s.1 s.2 m) := it_eq2 (fun s : Int × Int => nb_Y_tick_48 v2 s.1 s.2 m) (v4, v5)
noncomputable def nk_Y_tick_152 (v2 : Int) (v4 : Int) (w0 : Int) (m : YS) : Option ((Int × Int × YS) ⊕ (Int × YS)) :=
  if w0 = 0 then
    some (.inl (v2, w0, m))
  else
    ck (v2 + 1) <|
    (N_Y_doTask v4 m).bind fun m4 =>
    (N_Y_settle m4).bind fun m8 =>
    some (.inl (v2 + 1, w0, m8))
theorem fk_Y_tick_152 {w y : Prop} {g : g_S} {n : NS} {m : YS} (hy : y) {xv2 : Int32} {v2 : Int} (ev2 : xv2 = Int32.ofInt v2) (rv2 : inR v2) {xv4 : Int32} {v4 : Int} (ev4 : xv4 = Int32.ofInt v4) (rv4 : inR v4) {xw0 : Int32} {w0 : Int} (ew0 : xw0 = Int32.ofInt w0) (rw0 : inR w0) (hR : RC w y g n m) : Rf (RS (fun a b => RI a.1 b.1 ∧ RI a.2.1 b.2.1 ∧ RC w y a.2.2 n b.2.2) (fun a b => RI a.1 b.1 ∧ RC w y a.2 n b.2)) (k_Y_tick_152 1838 xv2 xv4 xw0 g) (nk_Y_tick_152 v2 v4 w0 m) := by
  subst ev2
  subst ev4
  subst ew0
  unfold k_Y_tick_152 nk_Y_tick_152
  refine rf_eq rfl (e_n 0) rw0 (show inR 0 by decide) ?_ ?_
  · exact rf_ok (by exact ⟨⟨rfl, rv2⟩, ⟨rfl, rw0⟩, hR⟩)
  · refine rf_ck (fun h2 => ?_)
    refine v_c (y_gt hR hy) ?_
    refine rf_bind (f_Y_doTask hy rfl rv4 hR) (fun g6 m4 hR5 => ?_)
    refine v_c (y_gt hR5 hy) ?_
    refine rf_bind (f_Y_settle hy hR5) (fun g10 m8 hR9 => ?_)
    exact rf_ok (by exact ⟨⟨(e_add rfl (e_n 1)), h2⟩, ⟨rfl, rw0⟩, hR9⟩)
noncomputable def nb_Y_tick_31 (v2 : Int) (v3 : Int) (m : YS) : Option ((Int × Int × YS) ⊕ (Int × YS)) :=
  if v3 = 0 then
    some (.inr (v2, m))
  else
    if (m 154 0) = 0 then
      (NL_Y_tick_48 v2 (-1) 0 m).bind <| fun z4 =>
      if z4 = (-1) then
        nk_Y_tick_152 v2 z4 0 m
      else
        nk_Y_tick_152 v2 z4 1 m
    else
      some (.inr (v2, m))
theorem fb_Y_tick_31 {w y : Prop} {g : g_S} {n : NS} {m : YS} (hy : y) {xv2 : Int32} {v2 : Int} (ev2 : xv2 = Int32.ofInt v2) (rv2 : inR v2) {xv3 : Int32} {v3 : Int} (ev3 : xv3 = Int32.ofInt v3) (rv3 : inR v3) (hR : RC w y g n m) : Rf (RS (fun a b => RI a.1 b.1 ∧ RI a.2.1 b.2.1 ∧ RC w y a.2.2 n b.2.2) (fun a b => RI a.1 b.1 ∧ RC w y a.2 n b.2)) (b_Y_tick_31 1838 xv2 xv3 g) (nb_Y_tick_31 v2 v3 m) := by
  subst ev2
  subst ev3
  unfold b_Y_tick_31 nb_Y_tick_31
  refine rf_eq rfl (e_n 0) rv3 (show inR 0 by decide) ?_ ?_
  · exact rf_ok (by exact ⟨⟨rfl, rv2⟩, hR⟩)
  · refine y_Z hR hy yk154 yt154 yz154 (fun h2 => ?_)
    refine rf_eq rfl (e_n 0) (inZ.r h2) (show inR 0 by decide) ?_ ?_
    · refine rf_bind (fL_Y_tick_48 hy rfl rv2 (e_m 1) (show inR (-1) by decide) (e_n 0) (show inR 0 by decide) hR) (fun a5 z4 h => ?_)
      obtain ⟨rfl, r6⟩ := (show RI a5 z4 from h)
      refine rf_eq rfl (e_m 1) r6 (show inR (-1) by decide) ?_ ?_
      · exact fk_Y_tick_152 hy rfl rv2 rfl r6 (e_n 0) (show inR 0 by decide) hR
      · exact fk_Y_tick_152 hy rfl rv2 rfl r6 (e_n 1) (show inR 1 by decide) hR
    · exact rf_ok (by exact ⟨⟨rfl, rv2⟩, hR⟩)
noncomputable def NL_Y_tick_31 (v2 : Int) (v3 : Int) (m : YS) : Option (Int × YS) :=
  it (fun s : Int × Int × YS => nb_Y_tick_31 s.1 s.2.1 s.2.2) (v2, v3, m)
theorem fL_Y_tick_31 {w y : Prop} {g : g_S} {n : NS} {m : YS} (hy : y) {xv2 : Int32} {v2 : Int} (ev2 : xv2 = Int32.ofInt v2) (rv2 : inR v2) {xv3 : Int32} {v3 : Int} (ev3 : xv3 = Int32.ofInt v3) (rv3 : inR v3) (hR : RC w y g n m) : Rf (fun a b => RI a.1 b.1 ∧ RC w y a.2 n b.2) (L_Y_tick_31 1838 xv2 xv3 g) (NL_Y_tick_31 v2 v3 m) := by
  subst ev2
  subst ev3
  unfold L_Y_tick_31 NL_Y_tick_31
  refine rf_it (I := (fun a b => RI a.1 b.1 ∧ RI a.2.1 b.2.1 ∧ RC w y a.2.2 n b.2.2)) (fun s t h => ?_) ⟨⟨rfl, rv2⟩, ⟨rfl, rv3⟩, hR⟩
  exact fb_Y_tick_31 hy h.1.1 h.1.2 h.2.1.1 h.2.1.2 h.2.2
theorem NL_Y_tick_31_eq (v2 : Int) (v3 : Int) (m : YS) : NL_Y_tick_31 v2 v3 m = itc (nb_Y_tick_31 v2 v3 m) (fun s => NL_Y_tick_31 s.1 s.2.1 s.2.2) := it_eq2 (fun s : Int × Int × YS => nb_Y_tick_31 s.1 s.2.1 s.2.2) (v2, v3, m)
noncomputable def N_Y_tick (v1 : Int) (m : YS) : Option (Int × YS) :=
  if v1 < 0 then
    some ((-1), m)
  else
    if 1000 < v1 then
      some ((-1), m)
    else
      (N_Y_begin m).bind fun m6 =>
      ck ((m6 25 0) + v1) <|
      st (yw m6 25 0 ((m6 25 0) + v1)) fun m12 =>
      (NL_Y_tick_31 0 1 m12).bind <| u2 fun z15 m16 =>
      some (z15, m16)
theorem f_Y_tick {w y : Prop} {g : g_S} {n : NS} {m : YS} (hy : y) {xv1 : Int32} {v1 : Int} (ev1 : xv1 = Int32.ofInt v1) (rv1 : inR v1) (hR : RC w y g n m) : Rf (fun a b => RI a.1 b.1 ∧ RC w y a.2 n b.2) (M_Y_tick 1838 xv1 g) (N_Y_tick v1 m) := by
  subst ev1
  unfold M_Y_tick N_Y_tick
  refine rf_lt rfl (e_n 0) rv1 (show inR 0 by decide) ?_ ?_
  · exact rf_ok (by exact ⟨⟨(e_m 1), (show inR (-1) by decide)⟩, hR⟩)
  · refine rf_lt (e_n 1000) rfl (show inR 1000 by decide) rv1 ?_ ?_
    · exact rf_ok (by exact ⟨⟨(e_m 1), (show inR (-1) by decide)⟩, hR⟩)
    · refine v_c (y_gt hR hy) ?_
      refine rf_bind (f_Y_begin hy hR) (fun g8 m6 hR7 => ?_)
      refine y_I hR7 hy yk25 yt25 (fun h9 => ?_)
      refine rf_ck (fun h10 => ?_)
      refine y_pI hR7 hy yk25 ⟨yt25, yz25⟩ (e_add rfl rfl) h10 (fun g14 m12 hR13 => ?_)
      refine rf_bind (fL_Y_tick_31 hy (e_n 0) (show inR 0 by decide) (e_n 1) (show inR 1 by decide) hR13) (fun a b h => ?_)
      obtain ⟨a17, a18⟩ := a
      obtain ⟨z15, m16⟩ := b
      refine rf_u2 ?_
      obtain ⟨rfl, r20⟩ := (show RI a17 z15 from h.1)
      have hR19 : RC w y a18 n m16 := h.2
      exact rf_ok (by exact ⟨⟨rfl, r20⟩, hR19⟩)
noncomputable def nb_Y_attribute_16 (v1 : Int) (v3 : Int) (m : YS) : Option ((Int) ⊕ (Int)) :=
  if v3 < (m 3 0) then
    if v3 < 8 then
      ix v3 2000 <|
      (N_Y_isSmall (m 2 v3) m).bind fun z8 =>
      if z8 = 0 then
        if 0 < v3 then
          ix v3 2000 <|
          (N_Y_isDigit (m 2 v3) m).bind fun z17 =>
          if z17 = 0 then
            some (.inr v3)
          else
            ck (v3 + 1) <|
            some (.inl (v3 + 1))
        else
          some (.inr v3)
      else
        ck (v3 + 1) <|
        some (.inl (v3 + 1))
    else
      some (.inr v3)
  else
    some (.inr v3)
theorem fb_Y_attribute_16 {w y : Prop} {g : g_S} {n : NS} {m : YS} (hy : y) {xv1 : Int32} {v1 : Int} (ev1 : xv1 = Int32.ofInt v1) (rv1 : inR v1) {xv3 : Int32} {v3 : Int} (ev3 : xv3 = Int32.ofInt v3) (rv3 : inR v3) (hR : RC w y g n m) : Rf (RS (fun a b => RI a b) (fun a b => RI a b)) (b_Y_attribute_16 1838 xv1 xv3 g) (nb_Y_attribute_16 v1 v3 m) := by
  subst ev1
  subst ev3
  unfold b_Y_attribute_16 nb_Y_attribute_16
  refine y_I hR hy yk3 yt3 (fun h1 => ?_)
  refine rf_lt rfl rfl rv3 h1 ?_ ?_
  · refine rf_lt rfl (e_n 8) rv3 (show inR 8 by decide) ?_ ?_
    · refine y_Q hR hy ya2.1 (by decide) ?_
      refine y_aB hR hy ya2 yl2 rfl rv3 (fun h5 h6 => ?_)
      refine rf_bind (f_Y_isSmall hy rfl (inB.r h6) hR) (fun a10 z8 h => ?_)
      obtain ⟨rfl, r9⟩ := h
      refine rf_eq rfl (e_n 0) (inZ.r r9) (show inR 0 by decide) ?_ ?_
      · refine rf_lt (e_n 0) rfl (show inR 0 by decide) rv3 ?_ ?_
        · refine y_Q hR hy ya2.1 (by decide) ?_
          refine y_aB hR hy ya2 yl2 rfl rv3 (fun h14 h15 => ?_)
          refine rf_bind (f_Y_isDigit hy rfl (inB.r h15) hR) (fun a19 z17 h => ?_)
          obtain ⟨rfl, r18⟩ := h
          refine rf_eq rfl (e_n 0) (inZ.r r18) (show inR 0 by decide) ?_ ?_
          · exact rf_ok (by exact ⟨rfl, rv3⟩)
          · refine rf_ck (fun h21 => ?_)
            exact rf_ok (by exact ⟨(e_add rfl (e_n 1)), h21⟩)
        · exact rf_ok (by exact ⟨rfl, rv3⟩)
      · refine rf_ck (fun h22 => ?_)
        exact rf_ok (by exact ⟨(e_add rfl (e_n 1)), h22⟩)
    · exact rf_ok (by exact ⟨rfl, rv3⟩)
  · exact rf_ok (by exact ⟨rfl, rv3⟩)
noncomputable def NL_Y_attribute_16 (v1 : Int) (v3 : Int) (m : YS) : Option (Int) :=
  it (fun s : Int => nb_Y_attribute_16 v1 s m) (v3)
theorem fL_Y_attribute_16 {w y : Prop} {g : g_S} {n : NS} {m : YS} (hy : y) {xv1 : Int32} {v1 : Int} (ev1 : xv1 = Int32.ofInt v1) (rv1 : inR v1) {xv3 : Int32} {v3 : Int} (ev3 : xv3 = Int32.ofInt v3) (rv3 : inR v3) (hR : RC w y g n m) : Rf (fun a b => RI a b) (L_Y_attribute_16 1838 xv1 xv3 g) (NL_Y_attribute_16 v1 v3 m) := by
  subst ev1
  subst ev3
  unfold L_Y_attribute_16 NL_Y_attribute_16
  refine rf_it (I := (fun a b => RI a b)) (fun s t h => ?_) ⟨rfl, rv3⟩
  exact fb_Y_attribute_16 hy rfl rv1 h.1 h.2 hR
theorem NL_Y_attribute_16_eq (v1 : Int) (v3 : Int) (m : YS) : NL_Y_attribute_16 v1 v3 m = itc (nb_Y_attribute_16 v1 v3 m) (fun s => NL_Y_attribute_16 v1 s m) := it_eq2 (fun s : Int => nb_Y_attribute_16 v1 s m) (v3)
noncomputable def nb_Y_attribute_110 (v1 : Int) (v4 : Int) (m : YS) : Option ((Int) ⊕ ((Int) ⊕ (Unit))) :=
  ck (4 * v1) <|
  ix v1 120 <|
  ck ((4 * v1) + (m 56 v1)) <|
  if v4 < ((4 * v1) + (m 56 v1)) then
    ix v4 480 <|
    if (m 58 v4) = (m 3 0) then
      ck (8 * v4) <|
      (N_Y_same 57 (8 * v4) 2 0 (m 3 0) m).bind fun z17 =>
      if z17 = 0 then
        ck (v4 + 1) <|
        some (.inl (v4 + 1))
      else
        some (.inr (.inl v4))
    else
      ck (v4 + 1) <|
      some (.inl (v4 + 1))
  else
    some (.inr (.inr ()))
theorem fb_Y_attribute_110 {w y : Prop} {g : g_S} {n : NS} {m : YS} (hy : y) {xv1 : Int32} {v1 : Int} (ev1 : xv1 = Int32.ofInt v1) (rv1 : inR v1) {xv4 : Int32} {v4 : Int} (ev4 : xv4 = Int32.ofInt v4) (rv4 : inR v4) (hR : RC w y g n m) : Rf (RS (fun a b => RI a b) (RS (fun a b => RI a b) (fun _ _ => True))) (b_Y_attribute_110 1838 xv1 xv4 g) (nb_Y_attribute_110 v1 v4 m) := by
  subst ev1
  subst ev4
  unfold b_Y_attribute_110 nb_Y_attribute_110
  refine rf_ck (fun h1 => ?_)
  refine y_Q hR hy ya56.1 (by decide) ?_
  refine y_aI hR hy ya56 yl56 rfl rv1 (fun h3 h4 => ?_)
  refine rf_ck (fun h5 => ?_)
  refine rf_lt rfl (e_add (e_mul (e_n 4) rfl) rfl) rv4 h5 ?_ ?_
  · refine y_Q hR hy ya58.1 (by decide) ?_
    refine y_aI hR hy ya58 yl58 rfl rv4 (fun h8 h9 => ?_)
    refine y_I hR hy yk3 yt3 (fun h10 => ?_)
    refine rf_eq rfl rfl h9 h10 ?_ ?_
    · refine y_Q hR hy ya57.1 (by decide) ?_
      refine rf_ck (fun h13 => ?_)
      refine y_Q hR hy ya2.1 (by decide) ?_
      refine y_I hR hy yk3 yt3 (fun h15 => ?_)
      refine rf_bind (f_Y_same hy rfl ya57 (e_mul (e_n 8) rfl) h13 rfl ya2 (e_n 0) (show inR 0 by decide) rfl h15 hR) (fun a19 z17 h => ?_)
      obtain ⟨rfl, r18⟩ := h
      refine rf_eq rfl (e_n 0) (inZ.r r18) (show inR 0 by decide) ?_ ?_
      · refine rf_ck (fun h21 => ?_)
        exact rf_ok (by exact ⟨(e_add rfl (e_n 1)), h21⟩)
      · exact rf_ok (by exact ⟨rfl, rv4⟩)
    · refine rf_ck (fun h22 => ?_)
      exact rf_ok (by exact ⟨(e_add rfl (e_n 1)), h22⟩)
  · exact rf_ok (by exact trivial)
noncomputable def NL_Y_attribute_110 (v1 : Int) (v4 : Int) (m : YS) : Option ((Int) ⊕ (Unit)) :=
  it (fun s : Int => nb_Y_attribute_110 v1 s m) (v4)
theorem fL_Y_attribute_110 {w y : Prop} {g : g_S} {n : NS} {m : YS} (hy : y) {xv1 : Int32} {v1 : Int} (ev1 : xv1 = Int32.ofInt v1) (rv1 : inR v1) {xv4 : Int32} {v4 : Int} (ev4 : xv4 = Int32.ofInt v4) (rv4 : inR v4) (hR : RC w y g n m) : Rf (RS (fun a b => RI a b) (fun _ _ => True)) (L_Y_attribute_110 1838 xv1 xv4 g) (NL_Y_attribute_110 v1 v4 m) := by
  subst ev1
  subst ev4
  unfold L_Y_attribute_110 NL_Y_attribute_110
  refine rf_it (I := (fun a b => RI a b)) (fun s t h => ?_) ⟨rfl, rv4⟩
  exact fb_Y_attribute_110 hy rfl rv1 h.1 h.2 hR
theorem NL_Y_attribute_110_eq (v1 : Int) (v4 : Int) (m : YS) : NL_Y_attribute_110 v1 v4 m = itc (nb_Y_attribute_110 v1 v4 m) (fun s => NL_Y_attribute_110 v1 s m) := it_eq2 (fun s : Int => nb_Y_attribute_110 v1 s m) (v4)
noncomputable def nk_Y_attribute_79 (v3 : Int) (m : YS) : Option (Int × YS) :=
  (N_Y_wrong v3 m).bind fun z2 =>
  some (z2, m)
theorem fk_Y_attribute_79 {w y : Prop} {g : g_S} {n : NS} {m : YS} (hy : y) {xv3 : Int32} {v3 : Int} (ev3 : xv3 = Int32.ofInt v3) (rv3 : inR v3) (hR : RC w y g n m) : Rf (fun a b => RI a.1 b.1 ∧ RC w y a.2 n b.2) (k_Y_attribute_79 xv3 g) (nk_Y_attribute_79 v3 m) := by
  subst ev3
  unfold k_Y_attribute_79 nk_Y_attribute_79
  refine rf_bind (f_Y_wrong hy rfl rv3 hR) (fun a4 z2 h => ?_)
  obtain ⟨rfl, r3⟩ := h
  exact rf_ok (by exact ⟨⟨rfl, r3⟩, hR⟩)
noncomputable def nk_Y_attribute_64 (v1 : Int) (v3 : Int) (m : YS) : Option (Int × YS) :=
  if v3 < (m 3 0) then
    nk_Y_attribute_79 v3 m
  else
    if (m 3 0) = 0 then
      nk_Y_attribute_79 v3 m
    else
      (N_Y_there v1 m).bind fun z6 =>
      if z6 = 0 then
        some ((-1), m)
      else
        ix v1 120 <|
        if (m 46 v1) = 17 then
          some ((-1), m)
        else
          ck (4 * v1) <|
          (NL_Y_attribute_110 v1 (4 * v1) m).bind <|
            us (fun z17 =>
            st (yw m 5 0 0) fun m21 =>
            ck (60 * z17) <|
            ix z17 480 <|
            (N_Y_sayAll 59 (60 * z17) (m21 60 z17) m21).bind fun m30 =>
            some ((m30 5 0), m30))
            (fun _ =>
            some ((-1), m))
theorem fk_Y_attribute_64 {w y : Prop} {g : g_S} {n : NS} {m : YS} (hy : y) {xv1 : Int32} {v1 : Int} (ev1 : xv1 = Int32.ofInt v1) (rv1 : inR v1) {xv3 : Int32} {v3 : Int} (ev3 : xv3 = Int32.ofInt v3) (rv3 : inR v3) (hR : RC w y g n m) : Rf (fun a b => RI a.1 b.1 ∧ RC w y a.2 n b.2) (k_Y_attribute_64 1838 xv1 xv3 g) (nk_Y_attribute_64 v1 v3 m) := by
  subst ev1
  subst ev3
  unfold k_Y_attribute_64 nk_Y_attribute_64
  refine y_I hR hy yk3 yt3 (fun h1 => ?_)
  refine rf_lt rfl rfl rv3 h1 ?_ ?_
  · exact fk_Y_attribute_79 hy rfl rv3 hR
  · refine y_I hR hy yk3 yt3 (fun h3 => ?_)
    refine rf_eq rfl (e_n 0) h3 (show inR 0 by decide) ?_ ?_
    · exact fk_Y_attribute_79 hy rfl rv3 hR
    · refine v_c (y_gt hR hy) ?_
      refine rf_bind (f_Y_there hy rfl rv1 hR) (fun a8 z6 h => ?_)
      obtain ⟨rfl, r7⟩ := h
      refine rf_eq rfl (e_n 0) (inZ.r r7) (show inR 0 by decide) ?_ ?_
      · exact rf_ok (by exact ⟨⟨(e_m 1), (show inR (-1) by decide)⟩, hR⟩)
      · refine y_Q hR hy ya46.1 (by decide) ?_
        refine y_aI hR hy ya46 yl46 rfl rv1 (fun h12 h13 => ?_)
        refine rf_eq rfl (e_n 17) h13 (show inR 17 by decide) ?_ ?_
        · exact rf_ok (by exact ⟨⟨(e_m 1), (show inR (-1) by decide)⟩, hR⟩)
        · refine rf_ck (fun h16 => ?_)
          refine rf_bind (fL_Y_attribute_110 hy rfl rv1 (e_mul (e_n 4) rfl) h16 hR) (fun a b h => rf_us h (fun a18 z17 h => ?_) (fun a b h => ?_))
          · obtain ⟨rfl, r19⟩ := (show RI a18 z17 from h)
            refine y_pI hR hy yk5 ⟨yt5, yz5⟩ (e_n 0) (show inR 0 by decide) (fun g23 m21 hR22 => ?_)
            refine y_Q hR22 hy ya59.1 (by decide) ?_
            refine rf_ck (fun h25 => ?_)
            refine y_Q hR22 hy ya60.1 (by decide) ?_
            refine y_aI hR22 hy ya60 yl60 rfl r19 (fun h27 h28 => ?_)
            refine v_c (y_gt hR22 hy) ?_
            refine rf_bind (f_Y_sayAll hy rfl ya59 (e_mul (e_n 60) rfl) h25 rfl h28 hR22) (fun g32 m30 hR31 => ?_)
            refine y_I hR31 hy yk5 yt5 (fun h33 => ?_)
            exact rf_ok (by exact ⟨⟨rfl, h33⟩, hR31⟩)
          · exact rf_ok (by exact ⟨⟨(e_m 1), (show inR (-1) by decide)⟩, hR⟩)
noncomputable def N_Y_attribute (v1 : Int) (m : YS) : Option (Int × YS) :=
  (N_Y_take m).bind <| u2 fun z2 m5 =>
  if z2 < 0 then
    (NL_Y_attribute_16 v1 0 m5).bind <| fun z9 =>
    nk_Y_attribute_64 v1 z9 m5
  else
    (N_Y_wrong z2 m5).bind fun z13 =>
    some (z13, m5)
theorem f_Y_attribute {w y : Prop} {g : g_S} {n : NS} {m : YS} (hy : y) {xv1 : Int32} {v1 : Int} (ev1 : xv1 = Int32.ofInt v1) (rv1 : inR v1) (hR : RC w y g n m) : Rf (fun a b => RI a.1 b.1 ∧ RC w y a.2 n b.2) (M_Y_attribute 1838 xv1 g) (N_Y_attribute v1 m) := by
  subst ev1
  unfold M_Y_attribute N_Y_attribute
  refine v_c2 (y_gt hR hy) ?_
  refine rf_c2 (f_Y_take hy hR) (fun a4 g7 b h => ?_)
  obtain ⟨z2, m5⟩ := b
  refine rf_v2 ?_
  obtain ⟨rfl, r3⟩ := (show RI a4 z2 from h.1)
  have hR6 : RC w y g7 n m5 := h.2
  refine rf_lt rfl (e_n 0) r3 (show inR 0 by decide) ?_ ?_
  · refine rf_bind (fL_Y_attribute_16 hy rfl rv1 (e_n 0) (show inR 0 by decide) hR6) (fun a10 z9 h => ?_)
    obtain ⟨rfl, r11⟩ := (show RI a10 z9 from h)
    exact fk_Y_attribute_64 hy rfl rv1 rfl r11 hR6
  · refine rf_bind (f_Y_wrong hy rfl r3 hR6) (fun a15 z13 h => ?_)
    obtain ⟨rfl, r14⟩ := h
    exact rf_ok (by exact ⟨⟨rfl, r14⟩, hR6⟩)
noncomputable def N_Y_fault (v1 : Int) (v2 : Int) (m : YS) : Option (Int) :=
  if v1 < 0 then
    some (-1)
  else
    if v1 < (m 70 0) then
      if v1 < 40 then
        if v2 = 0 then
          ix v1 40 <|
          some (m 71 v1)
        else
          if v2 = 1 then
            ix v1 40 <|
            some (m 72 v1)
          else
            some (-1)
      else
        some (-1)
    else
      some (-1)
theorem f_Y_fault {w y : Prop} {g : g_S} {n : NS} {m : YS} (hy : y) {xv1 : Int32} {v1 : Int} (ev1 : xv1 = Int32.ofInt v1) (rv1 : inR v1) {xv2 : Int32} {v2 : Int} (ev2 : xv2 = Int32.ofInt v2) (rv2 : inR v2) (hR : RC w y g n m) : Rf (fun a b => RI a b) (M_Y_fault 1838 xv1 xv2 g) (N_Y_fault v1 v2 m) := by
  subst ev1
  subst ev2
  unfold M_Y_fault N_Y_fault
  refine rf_lt rfl (e_n 0) rv1 (show inR 0 by decide) ?_ ?_
  · exact rf_ok (by exact ⟨(e_m 1), (show inR (-1) by decide)⟩)
  · refine y_I hR hy yk70 yt70 (fun h3 => ?_)
    refine rf_lt rfl rfl rv1 h3 ?_ ?_
    · refine rf_lt rfl (e_n 40) rv1 (show inR 40 by decide) ?_ ?_
      · refine rf_eq rfl (e_n 0) rv2 (show inR 0 by decide) ?_ ?_
        · refine y_Q hR hy ya71.1 (by decide) ?_
          refine y_aI hR hy ya71 yl71 rfl rv1 (fun h8 h9 => ?_)
          exact rf_ok (by exact ⟨rfl, h9⟩)
        · refine rf_eq rfl (e_n 1) rv2 (show inR 1 by decide) ?_ ?_
          · refine y_Q hR hy ya72.1 (by decide) ?_
            refine y_aI hR hy ya72 yl72 rfl rv1 (fun h13 h14 => ?_)
            exact rf_ok (by exact ⟨rfl, h14⟩)
          · exact rf_ok (by exact ⟨(e_m 1), (show inR (-1) by decide)⟩)
      · exact rf_ok (by exact ⟨(e_m 1), (show inR (-1) by decide)⟩)
    · exact rf_ok (by exact ⟨(e_m 1), (show inR (-1) by decide)⟩)
noncomputable def nb_Y_readPart_154 (v1 : Nat) (v2 : Int) (v3 : Int) (v4 : Int) (v5 : Int) (v6 : Int) (v7 : Int) (m : YS) : Option ((Int × YS) ⊕ (YS)) :=
  if v7 < v6 then
    ck (8 * v3) <|
    ck ((8 * v3) + v7) <|
    ck (((8 * v3) + v7) - v5) <|
    ix v7 (yLn v1 : Int) <|
    ix (((8 * v3) + v7) - v5) 984 <|
    st (yw m 92 (((8 * v3) + v7) - v5) (m v1 v7)) fun m9 =>
    ck (v7 + 1) <|
    some (.inl (v7 + 1, m9))
  else
    some (.inr m)
theorem fb_Y_readPart_154 {w y : Prop} {g : g_S} {n : NS} {m : YS} (hy : y) {xv1 : Nat} {v1 : Nat} (ev1 : xv1 = yAd v1) (rv1 : v1 < 186 ∧ yT v1 = 1) {xv2 : Int32} {v2 : Int} (ev2 : xv2 = Int32.ofInt v2) (rv2 : inR v2) {xv3 : Int32} {v3 : Int} (ev3 : xv3 = Int32.ofInt v3) (rv3 : inR v3) {xv4 : Int32} {v4 : Int} (ev4 : xv4 = Int32.ofInt v4) (rv4 : inR v4) {xv5 : Int32} {v5 : Int} (ev5 : xv5 = Int32.ofInt v5) (rv5 : inR v5) {xv6 : Int32} {v6 : Int} (ev6 : xv6 = Int32.ofInt v6) (rv6 : inR v6) {xv7 : Int32} {v7 : Int} (ev7 : xv7 = Int32.ofInt v7) (rv7 : inR v7) (hR : RC w y g n m) : Rf (RS (fun a b => RI a.1 b.1 ∧ RC w y a.2 n b.2) (fun a b => RC w y a n b)) (b_Y_readPart_154 1838 xv1 xv2 xv3 xv4 xv5 xv6 xv7 g) (nb_Y_readPart_154 v1 v2 v3 v4 v5 v6 v7 m) := by
  subst ev1
  subst ev2
  subst ev3
  subst ev4
  subst ev5
  subst ev6
  subst ev7
  unfold b_Y_readPart_154 nb_Y_readPart_154
  refine rf_lt rfl rfl rv7 rv6 ?_ ?_
  · refine y_Q hR hy ya92.1 (by decide) ?_
    refine rf_ck (fun h3 => ?_)
    refine rf_ck (fun h4 => ?_)
    refine rf_ck (fun h5 => ?_)
    refine y_aB hR hy rv1 rfl rfl rv7 (fun h6 h7 => ?_)
    refine y_sB hR hy ya92 yl92 (e_sub (e_add (e_mul (e_n 8) rfl) rfl) rfl) h5 rfl h7 (fun g11 m9 hR10 => ?_)
    refine rf_ck (fun h12 => ?_)
    exact rf_ok (by exact ⟨⟨(e_add rfl (e_n 1)), h12⟩, hR10⟩)
  · exact rf_ok (by exact hR)
noncomputable def NL_Y_readPart_154 (v1 : Nat) (v2 : Int) (v3 : Int) (v4 : Int) (v5 : Int) (v6 : Int) (v7 : Int) (m : YS) : Option (YS) :=
  it (fun s : Int × YS => nb_Y_readPart_154 v1 v2 v3 v4 v5 v6 s.1 s.2) (v7, m)
theorem fL_Y_readPart_154 {w y : Prop} {g : g_S} {n : NS} {m : YS} (hy : y) {xv1 : Nat} {v1 : Nat} (ev1 : xv1 = yAd v1) (rv1 : v1 < 186 ∧ yT v1 = 1) {xv2 : Int32} {v2 : Int} (ev2 : xv2 = Int32.ofInt v2) (rv2 : inR v2) {xv3 : Int32} {v3 : Int} (ev3 : xv3 = Int32.ofInt v3) (rv3 : inR v3) {xv4 : Int32} {v4 : Int} (ev4 : xv4 = Int32.ofInt v4) (rv4 : inR v4) {xv5 : Int32} {v5 : Int} (ev5 : xv5 = Int32.ofInt v5) (rv5 : inR v5) {xv6 : Int32} {v6 : Int} (ev6 : xv6 = Int32.ofInt v6) (rv6 : inR v6) {xv7 : Int32} {v7 : Int} (ev7 : xv7 = Int32.ofInt v7) (rv7 : inR v7) (hR : RC w y g n m) : Rf (fun a b => RC w y a n b) (L_Y_readPart_154 1838 xv1 xv2 xv3 xv4 xv5 xv6 xv7 g) (NL_Y_readPart_154 v1 v2 v3 v4 v5 v6 v7 m) := by
  subst ev1
  subst ev2
  subst ev3
  subst ev4
  subst ev5
  subst ev6
  subst ev7
  unfold L_Y_readPart_154 NL_Y_readPart_154
  refine rf_it (I := (fun a b => RI a.1 b.1 ∧ RC w y a.2 n b.2)) (fun s t h => ?_) ⟨⟨rfl, rv7⟩, hR⟩
  exact fb_Y_readPart_154 hy rfl rv1 rfl rv2 rfl rv3 rfl rv4 rfl rv5 rfl rv6 h.1.1 h.1.2 h.2
theorem NL_Y_readPart_154_eq (v1 : Nat) (v2 : Int) (v3 : Int) (v4 : Int) (v5 : Int) (v6 : Int) (v7 : Int) (m : YS) : NL_Y_readPart_154 v1 v2 v3 v4 v5 v6 v7 m = itc (nb_Y_readPart_154 v1 v2 v3 v4 v5 v6 v7 m) (fun s => NL_Y_readPart_154 v1 v2 v3 v4 v5 v6 s.1 s.2) := it_eq2 (fun s : Int × YS => nb_Y_readPart_154 v1 v2 v3 v4 v5 v6 s.1 s.2) (v7, m)
noncomputable def nb_Y_readPart_371 (v1 : Nat) (v2 : Int) (v3 : Int) (v4 : Int) (v5 : Int) (v6 : Int) (v7 : Int) (v8 : Int) (m : YS) : Option ((Int × YS) ⊕ (YS)) :=
  if v8 < v7 then
    ck (8 * v6) <|
    ck ((8 * v6) + v8) <|
    ck (((8 * v6) + v8) - v5) <|
    ix v8 (yLn v1 : Int) <|
    ix (((8 * v6) + v8) - v5) 3936 <|
    st (yw m 96 (((8 * v6) + v8) - v5) (m v1 v8)) fun m9 =>
    ck (v8 + 1) <|
    some (.inl (v8 + 1, m9))
  else
    some (.inr m)
theorem fb_Y_readPart_371 {w y : Prop} {g : g_S} {n : NS} {m : YS} (hy : y) {xv1 : Nat} {v1 : Nat} (ev1 : xv1 = yAd v1) (rv1 : v1 < 186 ∧ yT v1 = 1) {xv2 : Int32} {v2 : Int} (ev2 : xv2 = Int32.ofInt v2) (rv2 : inR v2) {xv3 : Int32} {v3 : Int} (ev3 : xv3 = Int32.ofInt v3) (rv3 : inR v3) {xv4 : Int32} {v4 : Int} (ev4 : xv4 = Int32.ofInt v4) (rv4 : inR v4) {xv5 : Int32} {v5 : Int} (ev5 : xv5 = Int32.ofInt v5) (rv5 : inR v5) {xv6 : Int32} {v6 : Int} (ev6 : xv6 = Int32.ofInt v6) (rv6 : inR v6) {xv7 : Int32} {v7 : Int} (ev7 : xv7 = Int32.ofInt v7) (rv7 : inR v7) {xv8 : Int32} {v8 : Int} (ev8 : xv8 = Int32.ofInt v8) (rv8 : inR v8) (hR : RC w y g n m) : Rf (RS (fun a b => RI a.1 b.1 ∧ RC w y a.2 n b.2) (fun a b => RC w y a n b)) (b_Y_readPart_371 1838 xv1 xv2 xv3 xv4 xv5 xv6 xv7 xv8 g) (nb_Y_readPart_371 v1 v2 v3 v4 v5 v6 v7 v8 m) := by
  subst ev1
  subst ev2
  subst ev3
  subst ev4
  subst ev5
  subst ev6
  subst ev7
  subst ev8
  unfold b_Y_readPart_371 nb_Y_readPart_371
  refine rf_lt rfl rfl rv8 rv7 ?_ ?_
  · refine y_Q hR hy ya96.1 (by decide) ?_
    refine rf_ck (fun h3 => ?_)
    refine rf_ck (fun h4 => ?_)
    refine rf_ck (fun h5 => ?_)
    refine y_aB hR hy rv1 rfl rfl rv8 (fun h6 h7 => ?_)
    refine y_sB hR hy ya96 yl96 (e_sub (e_add (e_mul (e_n 8) rfl) rfl) rfl) h5 rfl h7 (fun g11 m9 hR10 => ?_)
    refine rf_ck (fun h12 => ?_)
    exact rf_ok (by exact ⟨⟨(e_add rfl (e_n 1)), h12⟩, hR10⟩)
  · exact rf_ok (by exact hR)
noncomputable def NL_Y_readPart_371 (v1 : Nat) (v2 : Int) (v3 : Int) (v4 : Int) (v5 : Int) (v6 : Int) (v7 : Int) (v8 : Int) (m : YS) : Option (YS) :=
  it (fun s : Int × YS => nb_Y_readPart_371 v1 v2 v3 v4 v5 v6 v7 s.1 s.2) (v8, m)
theorem fL_Y_readPart_371 {w y : Prop} {g : g_S} {n : NS} {m : YS} (hy : y) {xv1 : Nat} {v1 : Nat} (ev1 : xv1 = yAd v1) (rv1 : v1 < 186 ∧ yT v1 = 1) {xv2 : Int32} {v2 : Int} (ev2 : xv2 = Int32.ofInt v2) (rv2 : inR v2) {xv3 : Int32} {v3 : Int} (ev3 : xv3 = Int32.ofInt v3) (rv3 : inR v3) {xv4 : Int32} {v4 : Int} (ev4 : xv4 = Int32.ofInt v4) (rv4 : inR v4) {xv5 : Int32} {v5 : Int} (ev5 : xv5 = Int32.ofInt v5) (rv5 : inR v5) {xv6 : Int32} {v6 : Int} (ev6 : xv6 = Int32.ofInt v6) (rv6 : inR v6) {xv7 : Int32} {v7 : Int} (ev7 : xv7 = Int32.ofInt v7) (rv7 : inR v7) {xv8 : Int32} {v8 : Int} (ev8 : xv8 = Int32.ofInt v8) (rv8 : inR v8) (hR : RC w y g n m) : Rf (fun a b => RC w y a n b) (L_Y_readPart_371 1838 xv1 xv2 xv3 xv4 xv5 xv6 xv7 xv8 g) (NL_Y_readPart_371 v1 v2 v3 v4 v5 v6 v7 v8 m) := by
  subst ev1
  subst ev2
  subst ev3
  subst ev4
  subst ev5
  subst ev6
  subst ev7
  subst ev8
  unfold L_Y_readPart_371 NL_Y_readPart_371
  refine rf_it (I := (fun a b => RI a.1 b.1 ∧ RC w y a.2 n b.2)) (fun s t h => ?_) ⟨⟨rfl, rv8⟩, hR⟩
  exact fb_Y_readPart_371 hy rfl rv1 rfl rv2 rfl rv3 rfl rv4 rfl rv5 rfl rv6 rfl rv7 h.1.1 h.1.2 h.2
theorem NL_Y_readPart_371_eq (v1 : Nat) (v2 : Int) (v3 : Int) (v4 : Int) (v5 : Int) (v6 : Int) (v7 : Int) (v8 : Int) (m : YS) : NL_Y_readPart_371 v1 v2 v3 v4 v5 v6 v7 v8 m = itc (nb_Y_readPart_371 v1 v2 v3 v4 v5 v6 v7 v8 m) (fun s => NL_Y_readPart_371 v1 v2 v3 v4 v5 v6 v7 s.1 s.2) := it_eq2 (fun s : Int × YS => nb_Y_readPart_371 v1 v2 v3 v4 v5 v6 v7 s.1 s.2) (v8, m)
noncomputable def nk_Y_readPart_94 (v1 : Nat) (v2 : Int) (v3 : Int) (v4 : Int) (v5 : Int) (v6 : Int) (m : YS) : Option ((Int) ⊕ (Int)) :=
  ck (v6 - v5) <|
  if (v6 - v5) < 8 then
    ck (v6 + 1) <|
    some (.inl (v6 + 1))
  else
    some (.inr v6)
theorem fk_Y_readPart_94 {w y : Prop} {g : g_S} {n : NS} {m : YS} (hy : y) {xv1 : Nat} {v1 : Nat} (ev1 : xv1 = yAd v1) (rv1 : v1 < 186 ∧ yT v1 = 1) {xv2 : Int32} {v2 : Int} (ev2 : xv2 = Int32.ofInt v2) (rv2 : inR v2) {xv3 : Int32} {v3 : Int} (ev3 : xv3 = Int32.ofInt v3) (rv3 : inR v3) {xv4 : Int32} {v4 : Int} (ev4 : xv4 = Int32.ofInt v4) (rv4 : inR v4) {xv5 : Int32} {v5 : Int} (ev5 : xv5 = Int32.ofInt v5) (rv5 : inR v5) {xv6 : Int32} {v6 : Int} (ev6 : xv6 = Int32.ofInt v6) (rv6 : inR v6) (hR : RC w y g n m) : Rf (RS (fun a b => RI a b) (fun a b => RI a b)) (k_Y_readPart_94 1838 xv1 xv2 xv3 xv4 xv5 xv6 g) (nk_Y_readPart_94 v1 v2 v3 v4 v5 v6 m) := by
  subst ev1
  subst ev2
  subst ev3
  subst ev4
  subst ev5
  subst ev6
  unfold k_Y_readPart_94 nk_Y_readPart_94
  refine rf_ck (fun h1 => ?_)
  refine rf_lt (e_sub rfl rfl) (e_n 8) h1 (show inR 8 by decide) ?_ ?_
  · refine rf_ck (fun h3 => ?_)
    exact rf_ok (by exact ⟨(e_add rfl (e_n 1)), h3⟩)
  · exact rf_ok (by exact ⟨rfl, rv6⟩)
noncomputable def nb_Y_readPart_68 (v1 : Nat) (v2 : Int) (v3 : Int) (v4 : Int) (v5 : Int) (v6 : Int) (m : YS) : Option ((Int) ⊕ (Int)) :=
  if v6 < v2 then
    ix v6 (yLn v1 : Int) <|
    (N_Y_isSmall (m v1 v6) m).bind fun z5 =>
    if z5 = 0 then
      ix v6 (yLn v1 : Int) <|
      (N_Y_isDigit (m v1 v6) m).bind fun z12 =>
      if z12 = 0 then
        some (.inr v6)
      else
        nk_Y_readPart_94 v1 v2 v3 v4 v5 v6 m
    else
      nk_Y_readPart_94 v1 v2 v3 v4 v5 v6 m
  else
    some (.inr v6)
theorem fb_Y_readPart_68 {w y : Prop} {g : g_S} {n : NS} {m : YS} (hy : y) {xv1 : Nat} {v1 : Nat} (ev1 : xv1 = yAd v1) (rv1 : v1 < 186 ∧ yT v1 = 1) {xv2 : Int32} {v2 : Int} (ev2 : xv2 = Int32.ofInt v2) (rv2 : inR v2) {xv3 : Int32} {v3 : Int} (ev3 : xv3 = Int32.ofInt v3) (rv3 : inR v3) {xv4 : Int32} {v4 : Int} (ev4 : xv4 = Int32.ofInt v4) (rv4 : inR v4) {xv5 : Int32} {v5 : Int} (ev5 : xv5 = Int32.ofInt v5) (rv5 : inR v5) {xv6 : Int32} {v6 : Int} (ev6 : xv6 = Int32.ofInt v6) (rv6 : inR v6) (hR : RC w y g n m) : Rf (RS (fun a b => RI a b) (fun a b => RI a b)) (b_Y_readPart_68 1838 xv1 xv2 xv3 xv4 xv5 xv6 g) (nb_Y_readPart_68 v1 v2 v3 v4 v5 v6 m) := by
  subst ev1
  subst ev2
  subst ev3
  subst ev4
  subst ev5
  subst ev6
  unfold b_Y_readPart_68 nb_Y_readPart_68
  refine rf_lt rfl rfl rv6 rv2 ?_ ?_
  · refine y_aB hR hy rv1 rfl rfl rv6 (fun h2 h3 => ?_)
    refine rf_bind (f_Y_isSmall hy rfl (inB.r h3) hR) (fun a7 z5 h => ?_)
    obtain ⟨rfl, r6⟩ := h
    refine rf_eq rfl (e_n 0) (inZ.r r6) (show inR 0 by decide) ?_ ?_
    · refine y_aB hR hy rv1 rfl rfl rv6 (fun h9 h10 => ?_)
      refine rf_bind (f_Y_isDigit hy rfl (inB.r h10) hR) (fun a14 z12 h => ?_)
      obtain ⟨rfl, r13⟩ := h
      refine rf_eq rfl (e_n 0) (inZ.r r13) (show inR 0 by decide) ?_ ?_
      · exact rf_ok (by exact ⟨rfl, rv6⟩)
      · exact fk_Y_readPart_94 hy rfl rv1 rfl rv2 rfl rv3 rfl rv4 rfl rv5 rfl rv6 hR
    · exact fk_Y_readPart_94 hy rfl rv1 rfl rv2 rfl rv3 rfl rv4 rfl rv5 rfl rv6 hR
  · exact rf_ok (by exact ⟨rfl, rv6⟩)
noncomputable def NL_Y_readPart_68 (v1 : Nat) (v2 : Int) (v3 : Int) (v4 : Int) (v5 : Int) (v6 : Int) (m : YS) : Option (Int) :=
  it (fun s : Int => nb_Y_readPart_68 v1 v2 v3 v4 v5 s m) (v6)
theorem fL_Y_readPart_68 {w y : Prop} {g : g_S} {n : NS} {m : YS} (hy : y) {xv1 : Nat} {v1 : Nat} (ev1 : xv1 = yAd v1) (rv1 : v1 < 186 ∧ yT v1 = 1) {xv2 : Int32} {v2 : Int} (ev2 : xv2 = Int32.ofInt v2) (rv2 : inR v2) {xv3 : Int32} {v3 : Int} (ev3 : xv3 = Int32.ofInt v3) (rv3 : inR v3) {xv4 : Int32} {v4 : Int} (ev4 : xv4 = Int32.ofInt v4) (rv4 : inR v4) {xv5 : Int32} {v5 : Int} (ev5 : xv5 = Int32.ofInt v5) (rv5 : inR v5) {xv6 : Int32} {v6 : Int} (ev6 : xv6 = Int32.ofInt v6) (rv6 : inR v6) (hR : RC w y g n m) : Rf (fun a b => RI a b) (L_Y_readPart_68 1838 xv1 xv2 xv3 xv4 xv5 xv6 g) (NL_Y_readPart_68 v1 v2 v3 v4 v5 v6 m) := by
  subst ev1
  subst ev2
  subst ev3
  subst ev4
  subst ev5
  subst ev6
  unfold L_Y_readPart_68 NL_Y_readPart_68
  refine rf_it (I := (fun a b => RI a b)) (fun s t h => ?_) ⟨rfl, rv6⟩
  exact fb_Y_readPart_68 hy rfl rv1 rfl rv2 rfl rv3 rfl rv4 rfl rv5 h.1 h.2 hR
theorem NL_Y_readPart_68_eq (v1 : Nat) (v2 : Int) (v3 : Int) (v4 : Int) (v5 : Int) (v6 : Int) (m : YS) : NL_Y_readPart_68 v1 v2 v3 v4 v5 v6 m = itc (nb_Y_readPart_68 v1 v2 v3 v4 v5 v6 m) (fun s => NL_Y_readPart_68 v1 v2 v3 v4 v5 s m) := it_eq2 (fun s : Int => nb_Y_readPart_68 v1 v2 v3 v4 v5 s m) (v6)
noncomputable def nk_Y_readPart_310 (v1 : Nat) (v2 : Int) (v3 : Int) (v4 : Int) (v5 : Int) (v6 : Int) (v7 : Int) (m : YS) : Option ((Int) ⊕ (Int)) :=
  ck (v7 - v5) <|
  if (v7 - v5) < 8 then
    ck (v7 + 1) <|
    some (.inl (v7 + 1))
  else
    some (.inr v7)
theorem fk_Y_readPart_310 {w y : Prop} {g : g_S} {n : NS} {m : YS} (hy : y) {xv1 : Nat} {v1 : Nat} (ev1 : xv1 = yAd v1) (rv1 : v1 < 186 ∧ yT v1 = 1) {xv2 : Int32} {v2 : Int} (ev2 : xv2 = Int32.ofInt v2) (rv2 : inR v2) {xv3 : Int32} {v3 : Int} (ev3 : xv3 = Int32.ofInt v3) (rv3 : inR v3) {xv4 : Int32} {v4 : Int} (ev4 : xv4 = Int32.ofInt v4) (rv4 : inR v4) {xv5 : Int32} {v5 : Int} (ev5 : xv5 = Int32.ofInt v5) (rv5 : inR v5) {xv6 : Int32} {v6 : Int} (ev6 : xv6 = Int32.ofInt v6) (rv6 : inR v6) {xv7 : Int32} {v7 : Int} (ev7 : xv7 = Int32.ofInt v7) (rv7 : inR v7) (hR : RC w y g n m) : Rf (RS (fun a b => RI a b) (fun a b => RI a b)) (k_Y_readPart_310 1838 xv1 xv2 xv3 xv4 xv5 xv6 xv7 g) (nk_Y_readPart_310 v1 v2 v3 v4 v5 v6 v7 m) := by
  subst ev1
  subst ev2
  subst ev3
  subst ev4
  subst ev5
  subst ev6
  subst ev7
  unfold k_Y_readPart_310 nk_Y_readPart_310
  refine rf_ck (fun h1 => ?_)
  refine rf_lt (e_sub rfl rfl) (e_n 8) h1 (show inR 8 by decide) ?_ ?_
  · refine rf_ck (fun h3 => ?_)
    exact rf_ok (by exact ⟨(e_add rfl (e_n 1)), h3⟩)
  · exact rf_ok (by exact ⟨rfl, rv7⟩)
noncomputable def nb_Y_readPart_284 (v1 : Nat) (v2 : Int) (v3 : Int) (v4 : Int) (v5 : Int) (v6 : Int) (v7 : Int) (m : YS) : Option ((Int) ⊕ (Int)) :=
  if v7 < v2 then
    ix v7 (yLn v1 : Int) <|
    (N_Y_isSmall (m v1 v7) m).bind fun z5 =>
    if z5 = 0 then
      ix v7 (yLn v1 : Int) <|
      (N_Y_isDigit (m v1 v7) m).bind fun z12 =>
      if z12 = 0 then
        some (.inr v7)
      else
        nk_Y_readPart_310 v1 v2 v3 v4 v5 v6 v7 m
    else
      nk_Y_readPart_310 v1 v2 v3 v4 v5 v6 v7 m
  else
    some (.inr v7)
theorem fb_Y_readPart_284 {w y : Prop} {g : g_S} {n : NS} {m : YS} (hy : y) {xv1 : Nat} {v1 : Nat} (ev1 : xv1 = yAd v1) (rv1 : v1 < 186 ∧ yT v1 = 1) {xv2 : Int32} {v2 : Int} (ev2 : xv2 = Int32.ofInt v2) (rv2 : inR v2) {xv3 : Int32} {v3 : Int} (ev3 : xv3 = Int32.ofInt v3) (rv3 : inR v3) {xv4 : Int32} {v4 : Int} (ev4 : xv4 = Int32.ofInt v4) (rv4 : inR v4) {xv5 : Int32} {v5 : Int} (ev5 : xv5 = Int32.ofInt v5) (rv5 : inR v5) {xv6 : Int32} {v6 : Int} (ev6 : xv6 = Int32.ofInt v6) (rv6 : inR v6) {xv7 : Int32} {v7 : Int} (ev7 : xv7 = Int32.ofInt v7) (rv7 : inR v7) (hR : RC w y g n m) : Rf (RS (fun a b => RI a b) (fun a b => RI a b)) (b_Y_readPart_284 1838 xv1 xv2 xv3 xv4 xv5 xv6 xv7 g) (nb_Y_readPart_284 v1 v2 v3 v4 v5 v6 v7 m) := by
  subst ev1
  subst ev2
  subst ev3
  subst ev4
  subst ev5
  subst ev6
  subst ev7
  unfold b_Y_readPart_284 nb_Y_readPart_284
  refine rf_lt rfl rfl rv7 rv2 ?_ ?_
  · refine y_aB hR hy rv1 rfl rfl rv7 (fun h2 h3 => ?_)
    refine rf_bind (f_Y_isSmall hy rfl (inB.r h3) hR) (fun a7 z5 h => ?_)
    obtain ⟨rfl, r6⟩ := h
    refine rf_eq rfl (e_n 0) (inZ.r r6) (show inR 0 by decide) ?_ ?_
    · refine y_aB hR hy rv1 rfl rfl rv7 (fun h9 h10 => ?_)
      refine rf_bind (f_Y_isDigit hy rfl (inB.r h10) hR) (fun a14 z12 h => ?_)
      obtain ⟨rfl, r13⟩ := h
      refine rf_eq rfl (e_n 0) (inZ.r r13) (show inR 0 by decide) ?_ ?_
      · exact rf_ok (by exact ⟨rfl, rv7⟩)
      · exact fk_Y_readPart_310 hy rfl rv1 rfl rv2 rfl rv3 rfl rv4 rfl rv5 rfl rv6 rfl rv7 hR
    · exact fk_Y_readPart_310 hy rfl rv1 rfl rv2 rfl rv3 rfl rv4 rfl rv5 rfl rv6 rfl rv7 hR
  · exact rf_ok (by exact ⟨rfl, rv7⟩)
noncomputable def NL_Y_readPart_284 (v1 : Nat) (v2 : Int) (v3 : Int) (v4 : Int) (v5 : Int) (v6 : Int) (v7 : Int) (m : YS) : Option (Int) :=
  it (fun s : Int => nb_Y_readPart_284 v1 v2 v3 v4 v5 v6 s m) (v7)
theorem fL_Y_readPart_284 {w y : Prop} {g : g_S} {n : NS} {m : YS} (hy : y) {xv1 : Nat} {v1 : Nat} (ev1 : xv1 = yAd v1) (rv1 : v1 < 186 ∧ yT v1 = 1) {xv2 : Int32} {v2 : Int} (ev2 : xv2 = Int32.ofInt v2) (rv2 : inR v2) {xv3 : Int32} {v3 : Int} (ev3 : xv3 = Int32.ofInt v3) (rv3 : inR v3) {xv4 : Int32} {v4 : Int} (ev4 : xv4 = Int32.ofInt v4) (rv4 : inR v4) {xv5 : Int32} {v5 : Int} (ev5 : xv5 = Int32.ofInt v5) (rv5 : inR v5) {xv6 : Int32} {v6 : Int} (ev6 : xv6 = Int32.ofInt v6) (rv6 : inR v6) {xv7 : Int32} {v7 : Int} (ev7 : xv7 = Int32.ofInt v7) (rv7 : inR v7) (hR : RC w y g n m) : Rf (fun a b => RI a b) (L_Y_readPart_284 1838 xv1 xv2 xv3 xv4 xv5 xv6 xv7 g) (NL_Y_readPart_284 v1 v2 v3 v4 v5 v6 v7 m) := by
  subst ev1
  subst ev2
  subst ev3
  subst ev4
  subst ev5
  subst ev6
  subst ev7
  unfold L_Y_readPart_284 NL_Y_readPart_284
  refine rf_it (I := (fun a b => RI a b)) (fun s t h => ?_) ⟨rfl, rv7⟩
  exact fb_Y_readPart_284 hy rfl rv1 rfl rv2 rfl rv3 rfl rv4 rfl rv5 rfl rv6 h.1 h.2 hR
theorem NL_Y_readPart_284_eq (v1 : Nat) (v2 : Int) (v3 : Int) (v4 : Int) (v5 : Int) (v6 : Int) (v7 : Int) (m : YS) : NL_Y_readPart_284 v1 v2 v3 v4 v5 v6 v7 m = itc (nb_Y_readPart_284 v1 v2 v3 v4 v5 v6 v7 m) (fun s => NL_Y_readPart_284 v1 v2 v3 v4 v5 v6 s m) := it_eq2 (fun s : Int => nb_Y_readPart_284 v1 v2 v3 v4 v5 v6 s m) (v7)
noncomputable def nk_Y_readPart_431 (v1 : Nat) (v2 : Int) (v3 : Int) (v4 : Int) (v7 : Int) (w0 : Int) (w1 : Int) (w2 : Int) (m : YS) : Option ((Int × YS) ⊕ ((Int × YS) ⊕ (Int × YS) ⊕ (Int × YS))) :=
  ck (w1 + w0) <|
  ix w2 41 <|
  st (yw m 97 w2 (w1 + w0)) fun m3 =>
  ix v3 123 <|
  ck ((m3 93 v3) + 1) <|
  ix v3 123 <|
  st (yw m3 93 v3 ((m3 93 v3) + 1)) fun m11 =>
  some (.inl (v7, m11))
theorem fk_Y_readPart_431 {w y : Prop} {g : g_S} {n : NS} {m : YS} (hy : y) {xv1 : Nat} {v1 : Nat} (ev1 : xv1 = yAd v1) (rv1 : v1 < 186 ∧ yT v1 = 1) {xv2 : Int32} {v2 : Int} (ev2 : xv2 = Int32.ofInt v2) (rv2 : inR v2) {xv3 : Int32} {v3 : Int} (ev3 : xv3 = Int32.ofInt v3) (rv3 : inR v3) {xv4 : Int32} {v4 : Int} (ev4 : xv4 = Int32.ofInt v4) (rv4 : inR v4) {xv7 : Int32} {v7 : Int} (ev7 : xv7 = Int32.ofInt v7) (rv7 : inR v7) {xw0 : Int32} {w0 : Int} (ew0 : xw0 = Int32.ofInt w0) (rw0 : inR w0) {xw1 : Int32} {w1 : Int} (ew1 : xw1 = Int32.ofInt w1) (rw1 : inR w1) {xw2 : Int32} {w2 : Int} (ew2 : xw2 = Int32.ofInt w2) (rw2 : inR w2) (hR : RC w y g n m) : Rf (RS (fun a b => RI a.1 b.1 ∧ RC w y a.2 n b.2) (RS (fun a b => RI a.1 b.1 ∧ RC w y a.2 n b.2) (RS (fun a b => RI a.1 b.1 ∧ RC w y a.2 n b.2) (fun a b => RI a.1 b.1 ∧ RC w y a.2 n b.2)))) (k_Y_readPart_431 1838 xv1 xv2 xv3 xv4 xv7 xw0 xw1 xw2 (yAd 97) g) (nk_Y_readPart_431 v1 v2 v3 v4 v7 w0 w1 w2 m) := by
  subst ev1
  subst ev2
  subst ev3
  subst ev4
  subst ev7
  subst ew0
  subst ew1
  subst ew2
  unfold k_Y_readPart_431 nk_Y_readPart_431
  refine rf_ck (fun h1 => ?_)
  refine y_sI hR hy ya97 yl97 rfl rw2 (e_add rfl rfl) h1 (fun g5 m3 hR4 => ?_)
  refine y_Q hR4 hy ya93.1 (by decide) ?_
  refine y_aI hR4 hy ya93 yl93 rfl rv3 (fun h7 h8 => ?_)
  refine rf_ck (fun h9 => ?_)
  refine y_sI hR4 hy ya93 yl93 rfl rv3 (e_add rfl (e_n 1)) h9 (fun g13 m11 hR12 => ?_)
  exact rf_ok (by exact ⟨⟨rfl, rv7⟩, hR12⟩)
noncomputable def nk_Y_readPart_355 (v1 : Nat) (v2 : Int) (v3 : Int) (v4 : Int) (v5 : Int) (v6 : Int) (v7 : Int) (m : YS) : Option ((Int × YS) ⊕ ((Int × YS) ⊕ (Int × YS) ⊕ (Int × YS))) :=
  ck (v7 - v5) <|
  ix v6 492 <|
  st (yw m 95 v6 (v7 - v5)) fun m4 =>
  (NL_Y_readPart_371 v1 v2 v3 v4 v5 v6 v7 v5 m4).bind <| fun m7 =>
  ix v4 41 <|
  ix v6 492 <|
  if (m7 94 v6) = 35 then
    nk_Y_readPart_431 v1 v2 v3 v4 v7 100 (m7 97 v4) v4 m7
  else
    nk_Y_readPart_431 v1 v2 v3 v4 v7 10 (m7 97 v4) v4 m7
theorem fk_Y_readPart_355 {w y : Prop} {g : g_S} {n : NS} {m : YS} (hy : y) {xv1 : Nat} {v1 : Nat} (ev1 : xv1 = yAd v1) (rv1 : v1 < 186 ∧ yT v1 = 1) {xv2 : Int32} {v2 : Int} (ev2 : xv2 = Int32.ofInt v2) (rv2 : inR v2) {xv3 : Int32} {v3 : Int} (ev3 : xv3 = Int32.ofInt v3) (rv3 : inR v3) {xv4 : Int32} {v4 : Int} (ev4 : xv4 = Int32.ofInt v4) (rv4 : inR v4) {xv5 : Int32} {v5 : Int} (ev5 : xv5 = Int32.ofInt v5) (rv5 : inR v5) {xv6 : Int32} {v6 : Int} (ev6 : xv6 = Int32.ofInt v6) (rv6 : inR v6) {xv7 : Int32} {v7 : Int} (ev7 : xv7 = Int32.ofInt v7) (rv7 : inR v7) (hR : RC w y g n m) : Rf (RS (fun a b => RI a.1 b.1 ∧ RC w y a.2 n b.2) (RS (fun a b => RI a.1 b.1 ∧ RC w y a.2 n b.2) (RS (fun a b => RI a.1 b.1 ∧ RC w y a.2 n b.2) (fun a b => RI a.1 b.1 ∧ RC w y a.2 n b.2)))) (k_Y_readPart_355 1838 xv1 xv2 xv3 xv4 xv5 xv6 xv7 g) (nk_Y_readPart_355 v1 v2 v3 v4 v5 v6 v7 m) := by
  subst ev1
  subst ev2
  subst ev3
  subst ev4
  subst ev5
  subst ev6
  subst ev7
  unfold k_Y_readPart_355 nk_Y_readPart_355
  refine y_Q hR hy ya95.1 (by decide) ?_
  refine rf_ck (fun h2 => ?_)
  refine y_sI hR hy ya95 yl95 rfl rv6 (e_sub rfl rfl) h2 (fun g6 m4 hR5 => ?_)
  refine rf_bind (fL_Y_readPart_371 hy rfl rv1 rfl rv2 rfl rv3 rfl rv4 rfl rv5 rfl rv6 rfl rv7 rfl rv5 hR5) (fun a8 m7 h => ?_)
  have hR9 : RC w y a8 n m7 := h
  refine y_Q hR9 hy ya97.1 (by decide) ?_
  refine y_aI hR9 hy ya97 yl97 rfl rv4 (fun h11 h12 => ?_)
  refine y_Q hR9 hy ya94.1 (by decide) ?_
  refine y_aI hR9 hy ya94 yl94 rfl rv6 (fun h14 h15 => ?_)
  refine rf_eq rfl (e_n 35) h15 (show inR 35 by decide) ?_ ?_
  · exact fk_Y_readPart_431 hy rfl rv1 rfl rv2 rfl rv3 rfl rv4 rfl rv7 (e_n 100) (show inR 100 by decide) rfl h12 rfl rv4 hR9
  · exact fk_Y_readPart_431 hy rfl rv1 rfl rv2 rfl rv3 rfl rv4 rfl rv7 (e_n 10) (show inR 10 by decide) rfl h12 rfl rv4 hR9
noncomputable def nk_Y_readPart_326 (v1 : Nat) (v2 : Int) (v3 : Int) (v4 : Int) (v5 : Int) (v6 : Int) (v7 : Int) (m : YS) : Option ((Int × YS) ⊕ ((Int × YS) ⊕ (Int × YS) ⊕ (Int × YS))) :=
  if v7 < v2 then
    ix v7 (yLn v1 : Int) <|
    (N_Y_isSmall (m v1 v7) m).bind fun z5 =>
    if z5 = 0 then
      ix v7 (yLn v1 : Int) <|
      (N_Y_isDigit (m v1 v7) m).bind fun z12 =>
      if z12 = 0 then
        nk_Y_readPart_355 v1 v2 v3 v4 v5 v6 v7 m
      else
        some (.inr (.inr (.inl (v7, m))))
    else
      some (.inr (.inr (.inl (v7, m))))
  else
    nk_Y_readPart_355 v1 v2 v3 v4 v5 v6 v7 m
theorem fk_Y_readPart_326 {w y : Prop} {g : g_S} {n : NS} {m : YS} (hy : y) {xv1 : Nat} {v1 : Nat} (ev1 : xv1 = yAd v1) (rv1 : v1 < 186 ∧ yT v1 = 1) {xv2 : Int32} {v2 : Int} (ev2 : xv2 = Int32.ofInt v2) (rv2 : inR v2) {xv3 : Int32} {v3 : Int} (ev3 : xv3 = Int32.ofInt v3) (rv3 : inR v3) {xv4 : Int32} {v4 : Int} (ev4 : xv4 = Int32.ofInt v4) (rv4 : inR v4) {xv5 : Int32} {v5 : Int} (ev5 : xv5 = Int32.ofInt v5) (rv5 : inR v5) {xv6 : Int32} {v6 : Int} (ev6 : xv6 = Int32.ofInt v6) (rv6 : inR v6) {xv7 : Int32} {v7 : Int} (ev7 : xv7 = Int32.ofInt v7) (rv7 : inR v7) (hR : RC w y g n m) : Rf (RS (fun a b => RI a.1 b.1 ∧ RC w y a.2 n b.2) (RS (fun a b => RI a.1 b.1 ∧ RC w y a.2 n b.2) (RS (fun a b => RI a.1 b.1 ∧ RC w y a.2 n b.2) (fun a b => RI a.1 b.1 ∧ RC w y a.2 n b.2)))) (k_Y_readPart_326 1838 xv1 xv2 xv3 xv4 xv5 xv6 xv7 g) (nk_Y_readPart_326 v1 v2 v3 v4 v5 v6 v7 m) := by
  subst ev1
  subst ev2
  subst ev3
  subst ev4
  subst ev5
  subst ev6
  subst ev7
  unfold k_Y_readPart_326 nk_Y_readPart_326
  refine rf_lt rfl rfl rv7 rv2 ?_ ?_
  · refine y_aB hR hy rv1 rfl rfl rv7 (fun h2 h3 => ?_)
    refine rf_bind (f_Y_isSmall hy rfl (inB.r h3) hR) (fun a7 z5 h => ?_)
    obtain ⟨rfl, r6⟩ := h
    refine rf_eq rfl (e_n 0) (inZ.r r6) (show inR 0 by decide) ?_ ?_
    · refine y_aB hR hy rv1 rfl rfl rv7 (fun h9 h10 => ?_)
      refine rf_bind (f_Y_isDigit hy rfl (inB.r h10) hR) (fun a14 z12 h => ?_)
      obtain ⟨rfl, r13⟩ := h
      refine rf_eq rfl (e_n 0) (inZ.r r13) (show inR 0 by decide) ?_ ?_
      · exact fk_Y_readPart_355 hy rfl rv1 rfl rv2 rfl rv3 rfl rv4 rfl rv5 rfl rv6 rfl rv7 hR
      · exact rf_ok (by exact ⟨⟨rfl, rv7⟩, hR⟩)
    · exact rf_ok (by exact ⟨⟨rfl, rv7⟩, hR⟩)
  · exact fk_Y_readPart_355 hy rfl rv1 rfl rv2 rfl rv3 rfl rv4 rfl rv5 rfl rv6 rfl rv7 hR
noncomputable def nk_Y_readPart_225 (v1 : Nat) (v2 : Int) (v3 : Int) (v4 : Int) (v5 : Int) (m : YS) : Option ((Int × YS) ⊕ ((Int × YS) ⊕ (Int × YS) ⊕ (Int × YS))) :=
  ix v3 123 <|
  if (m 93 v3) < 4 then
    ck (4 * v3) <|
    ix v3 123 <|
    ck ((4 * v3) + (m 93 v3)) <|
    ix v5 (yLn v1 : Int) <|
    ix ((4 * v3) + (m 93 v3)) 492 <|
    st (yw m 94 ((4 * v3) + (m 93 v3)) (m v1 v5)) fun m14 =>
    ck (v5 + 1) <|
    if (v5 + 1) < v2 then
      ix (v5 + 1) (yLn v1 : Int) <|
      (N_Y_isSmall (m14 v1 (v5 + 1)) m14).bind fun z22 =>
      if z22 = 0 then
        some (.inr (.inl (v5 + 1, m14)))
      else
        (NL_Y_readPart_284 v1 v2 v3 v4 (v5 + 1) ((4 * v3) + (m 93 v3)) (v5 + 1) m14).bind <| fun z26 =>
        nk_Y_readPart_326 v1 v2 v3 v4 (v5 + 1) ((4 * v3) + (m 93 v3)) z26 m14
    else
      some (.inr (.inl (v5 + 1, m14)))
  else
    some (.inr (.inr (.inr (v5, m))))
theorem fk_Y_readPart_225 {w y : Prop} {g : g_S} {n : NS} {m : YS} (hy : y) {xv1 : Nat} {v1 : Nat} (ev1 : xv1 = yAd v1) (rv1 : v1 < 186 ∧ yT v1 = 1) {xv2 : Int32} {v2 : Int} (ev2 : xv2 = Int32.ofInt v2) (rv2 : inR v2) {xv3 : Int32} {v3 : Int} (ev3 : xv3 = Int32.ofInt v3) (rv3 : inR v3) {xv4 : Int32} {v4 : Int} (ev4 : xv4 = Int32.ofInt v4) (rv4 : inR v4) {xv5 : Int32} {v5 : Int} (ev5 : xv5 = Int32.ofInt v5) (rv5 : inR v5) (hR : RC w y g n m) : Rf (RS (fun a b => RI a.1 b.1 ∧ RC w y a.2 n b.2) (RS (fun a b => RI a.1 b.1 ∧ RC w y a.2 n b.2) (RS (fun a b => RI a.1 b.1 ∧ RC w y a.2 n b.2) (fun a b => RI a.1 b.1 ∧ RC w y a.2 n b.2)))) (k_Y_readPart_225 1838 xv1 xv2 xv3 xv4 xv5 g) (nk_Y_readPart_225 v1 v2 v3 v4 v5 m) := by
  subst ev1
  subst ev2
  subst ev3
  subst ev4
  subst ev5
  unfold k_Y_readPart_225 nk_Y_readPart_225
  refine y_Q hR hy ya93.1 (by decide) ?_
  refine y_aI hR hy ya93 yl93 rfl rv3 (fun h2 h3 => ?_)
  refine rf_lt rfl (e_n 4) h3 (show inR 4 by decide) ?_ ?_
  · refine rf_ck (fun h5 => ?_)
    refine y_Q hR hy ya93.1 (by decide) ?_
    refine y_aI hR hy ya93 yl93 rfl rv3 (fun h7 h8 => ?_)
    refine rf_ck (fun h9 => ?_)
    refine y_Q hR hy ya94.1 (by decide) ?_
    refine y_aB hR hy rv1 rfl rfl rv5 (fun h11 h12 => ?_)
    refine y_sI hR hy ya94 yl94 (e_add (e_mul (e_n 4) rfl) rfl) h9 rfl (inB.r h12) (fun g16 m14 hR15 => ?_)
    refine rf_ck (fun h17 => ?_)
    refine rf_lt (e_add rfl (e_n 1)) rfl h17 rv2 ?_ ?_
    · refine y_aB hR15 hy rv1 rfl (e_add rfl (e_n 1)) h17 (fun h19 h20 => ?_)
      refine rf_bind (f_Y_isSmall hy rfl (inB.r h20) hR15) (fun a24 z22 h => ?_)
      obtain ⟨rfl, r23⟩ := h
      refine rf_eq rfl (e_n 0) (inZ.r r23) (show inR 0 by decide) ?_ ?_
      · exact rf_ok (by exact ⟨⟨(e_add rfl (e_n 1)), h17⟩, hR15⟩)
      · refine rf_bind (fL_Y_readPart_284 hy rfl rv1 rfl rv2 rfl rv3 rfl rv4 (e_add rfl (e_n 1)) h17 (e_add (e_mul (e_n 4) rfl) rfl) h9 (e_add rfl (e_n 1)) h17 hR15) (fun a27 z26 h => ?_)
        obtain ⟨rfl, r28⟩ := (show RI a27 z26 from h)
        exact fk_Y_readPart_326 hy rfl rv1 rfl rv2 rfl rv3 rfl rv4 (e_add rfl (e_n 1)) h17 (e_add (e_mul (e_n 4) rfl) rfl) h9 rfl r28 hR15
    · exact rf_ok (by exact ⟨⟨(e_add rfl (e_n 1)), h17⟩, hR15⟩)
  · exact rf_ok (by exact ⟨⟨rfl, rv5⟩, hR⟩)
noncomputable def nb_Y_readPart_201 (v1 : Nat) (v2 : Int) (v3 : Int) (v4 : Int) (v5 : Int) (m : YS) : Option ((Int × YS) ⊕ ((Int × YS) ⊕ (Int × YS) ⊕ (Int × YS))) :=
  if v5 < v2 then
    ix v5 (yLn v1 : Int) <|
    if (m v1 v5) = 46 then
      nk_Y_readPart_225 v1 v2 v3 v4 v5 m
    else
      ix v5 (yLn v1 : Int) <|
      if (m v1 v5) = 35 then
        nk_Y_readPart_225 v1 v2 v3 v4 v5 m
      else
        some (.inr (.inr (.inr (v5, m))))
  else
    some (.inr (.inr (.inr (v5, m))))
theorem fb_Y_readPart_201 {w y : Prop} {g : g_S} {n : NS} {m : YS} (hy : y) {xv1 : Nat} {v1 : Nat} (ev1 : xv1 = yAd v1) (rv1 : v1 < 186 ∧ yT v1 = 1) {xv2 : Int32} {v2 : Int} (ev2 : xv2 = Int32.ofInt v2) (rv2 : inR v2) {xv3 : Int32} {v3 : Int} (ev3 : xv3 = Int32.ofInt v3) (rv3 : inR v3) {xv4 : Int32} {v4 : Int} (ev4 : xv4 = Int32.ofInt v4) (rv4 : inR v4) {xv5 : Int32} {v5 : Int} (ev5 : xv5 = Int32.ofInt v5) (rv5 : inR v5) (hR : RC w y g n m) : Rf (RS (fun a b => RI a.1 b.1 ∧ RC w y a.2 n b.2) (RS (fun a b => RI a.1 b.1 ∧ RC w y a.2 n b.2) (RS (fun a b => RI a.1 b.1 ∧ RC w y a.2 n b.2) (fun a b => RI a.1 b.1 ∧ RC w y a.2 n b.2)))) (b_Y_readPart_201 1838 xv1 xv2 xv3 xv4 xv5 g) (nb_Y_readPart_201 v1 v2 v3 v4 v5 m) := by
  subst ev1
  subst ev2
  subst ev3
  subst ev4
  subst ev5
  unfold b_Y_readPart_201 nb_Y_readPart_201
  refine rf_lt rfl rfl rv5 rv2 ?_ ?_
  · refine y_aB hR hy rv1 rfl rfl rv5 (fun h2 h3 => ?_)
    refine rf_eq rfl (e_n 46) (inB.r h3) (show inR 46 by decide) ?_ ?_
    · exact fk_Y_readPart_225 hy rfl rv1 rfl rv2 rfl rv3 rfl rv4 rfl rv5 hR
    · refine y_aB hR hy rv1 rfl rfl rv5 (fun h5 h6 => ?_)
      refine rf_eq rfl (e_n 35) (inB.r h6) (show inR 35 by decide) ?_ ?_
      · exact fk_Y_readPart_225 hy rfl rv1 rfl rv2 rfl rv3 rfl rv4 rfl rv5 hR
      · exact rf_ok (by exact ⟨⟨rfl, rv5⟩, hR⟩)
  · exact rf_ok (by exact ⟨⟨rfl, rv5⟩, hR⟩)
noncomputable def NL_Y_readPart_201 (v1 : Nat) (v2 : Int) (v3 : Int) (v4 : Int) (v5 : Int) (m : YS) : Option ((Int × YS) ⊕ (Int × YS) ⊕ (Int × YS)) :=
  it (fun s : Int × YS => nb_Y_readPart_201 v1 v2 v3 v4 s.1 s.2) (v5, m)
theorem fL_Y_readPart_201 {w y : Prop} {g : g_S} {n : NS} {m : YS} (hy : y) {xv1 : Nat} {v1 : Nat} (ev1 : xv1 = yAd v1) (rv1 : v1 < 186 ∧ yT v1 = 1) {xv2 : Int32} {v2 : Int} (ev2 : xv2 = Int32.ofInt v2) (rv2 : inR v2) {xv3 : Int32} {v3 : Int} (ev3 : xv3 = Int32.ofInt v3) (rv3 : inR v3) {xv4 : Int32} {v4 : Int} (ev4 : xv4 = Int32.ofInt v4) (rv4 : inR v4) {xv5 : Int32} {v5 : Int} (ev5 : xv5 = Int32.ofInt v5) (rv5 : inR v5) (hR : RC w y g n m) : Rf (RS (fun a b => RI a.1 b.1 ∧ RC w y a.2 n b.2) (RS (fun a b => RI a.1 b.1 ∧ RC w y a.2 n b.2) (fun a b => RI a.1 b.1 ∧ RC w y a.2 n b.2))) (L_Y_readPart_201 1838 xv1 xv2 xv3 xv4 xv5 g) (NL_Y_readPart_201 v1 v2 v3 v4 v5 m) := by
  subst ev1
  subst ev2
  subst ev3
  subst ev4
  subst ev5
  unfold L_Y_readPart_201 NL_Y_readPart_201
  refine rf_it (I := (fun a b => RI a.1 b.1 ∧ RC w y a.2 n b.2)) (fun s t h => ?_) ⟨⟨rfl, rv5⟩, hR⟩
  exact fb_Y_readPart_201 hy rfl rv1 rfl rv2 rfl rv3 rfl rv4 h.1.1 h.1.2 h.2
theorem NL_Y_readPart_201_eq (v1 : Nat) (v2 : Int) (v3 : Int) (v4 : Int) (v5 : Int) (m : YS) : NL_Y_readPart_201 v1 v2 v3 v4 v5 m = itc (nb_Y_readPart_201 v1 v2 v3 v4 v5 m) (fun s => NL_Y_readPart_201 v1 v2 v3 v4 s.1 s.2) := it_eq2 (fun s : Int × YS => nb_Y_readPart_201 v1 v2 v3 v4 s.1 s.2) (v5, m)
noncomputable def nk_Y_readPart_471 (v5 : Int) (m : YS) : Option (Int × YS) :=
  st (yw m 100 0 v5) fun m2 =>
  some ((-1), m2)
theorem fk_Y_readPart_471 {w y : Prop} {g : g_S} {n : NS} {m : YS} (hy : y) {xv5 : Int32} {v5 : Int} (ev5 : xv5 = Int32.ofInt v5) (rv5 : inR v5) (hR : RC w y g n m) : Rf (fun a b => RI a.1 b.1 ∧ RC w y a.2 n b.2) (k_Y_readPart_471 1838 xv5 g) (nk_Y_readPart_471 v5 m) := by
  subst ev5
  unfold k_Y_readPart_471 nk_Y_readPart_471
  refine y_pI hR hy yk100 ⟨yt100, yz100⟩ rfl rv5 (fun g4 m2 hR3 => ?_)
  exact rf_ok (by exact ⟨⟨(e_m 1), (show inR (-1) by decide)⟩, hR3⟩)
noncomputable def nk_Y_readPart_450 (v3 : Int) (v5 : Int) (m : YS) : Option (Int × YS) :=
  ix v3 123 <|
  if (m 91 v3) = 0 then
    ix v3 123 <|
    if (m 93 v3) = 0 then
      some (v5, m)
    else
      nk_Y_readPart_471 v5 m
  else
    nk_Y_readPart_471 v5 m
theorem fk_Y_readPart_450 {w y : Prop} {g : g_S} {n : NS} {m : YS} (hy : y) {xv3 : Int32} {v3 : Int} (ev3 : xv3 = Int32.ofInt v3) (rv3 : inR v3) {xv5 : Int32} {v5 : Int} (ev5 : xv5 = Int32.ofInt v5) (rv5 : inR v5) (hR : RC w y g n m) : Rf (fun a b => RI a.1 b.1 ∧ RC w y a.2 n b.2) (k_Y_readPart_450 1838 xv3 xv5 g) (nk_Y_readPart_450 v3 v5 m) := by
  subst ev3
  subst ev5
  unfold k_Y_readPart_450 nk_Y_readPart_450
  refine y_Q hR hy ya91.1 (by decide) ?_
  refine y_aI hR hy ya91 yl91 rfl rv3 (fun h2 h3 => ?_)
  refine rf_eq rfl (e_n 0) h3 (show inR 0 by decide) ?_ ?_
  · refine y_Q hR hy ya93.1 (by decide) ?_
    refine y_aI hR hy ya93 yl93 rfl rv3 (fun h6 h7 => ?_)
    refine rf_eq rfl (e_n 0) h7 (show inR 0 by decide) ?_ ?_
    · exact rf_ok (by exact ⟨⟨rfl, rv5⟩, hR⟩)
    · exact fk_Y_readPart_471 hy rfl rv5 hR
  · exact fk_Y_readPart_471 hy rfl rv5 hR
noncomputable def nk_Y_readPart_139 (v1 : Nat) (v2 : Int) (v3 : Int) (v4 : Int) (v5 : Int) (v6 : Int) (m : YS) : Option (Int × YS) :=
  ck (v6 - v5) <|
  ix v3 123 <|
  st (yw m 91 v3 (v6 - v5)) fun m4 =>
  (NL_Y_readPart_154 v1 v2 v3 v4 v5 v6 v5 m4).bind <| fun m7 =>
  ix v4 41 <|
  ck ((m7 97 v4) + 1) <|
  ix v4 41 <|
  st (yw m7 97 v4 ((m7 97 v4) + 1)) fun m15 =>
  (NL_Y_readPart_201 v1 v2 v3 v4 v6 m15).bind <|
    us (u2 fun z18 m19 =>
    some (z18, m19))
    (us (u2 fun z25 m26 =>
    some (z25, m26))
    (u2 fun z32 m33 =>
    nk_Y_readPart_450 v3 z32 m33))
theorem fk_Y_readPart_139 {w y : Prop} {g : g_S} {n : NS} {m : YS} (hy : y) {xv1 : Nat} {v1 : Nat} (ev1 : xv1 = yAd v1) (rv1 : v1 < 186 ∧ yT v1 = 1) {xv2 : Int32} {v2 : Int} (ev2 : xv2 = Int32.ofInt v2) (rv2 : inR v2) {xv3 : Int32} {v3 : Int} (ev3 : xv3 = Int32.ofInt v3) (rv3 : inR v3) {xv4 : Int32} {v4 : Int} (ev4 : xv4 = Int32.ofInt v4) (rv4 : inR v4) {xv5 : Int32} {v5 : Int} (ev5 : xv5 = Int32.ofInt v5) (rv5 : inR v5) {xv6 : Int32} {v6 : Int} (ev6 : xv6 = Int32.ofInt v6) (rv6 : inR v6) (hR : RC w y g n m) : Rf (fun a b => RI a.1 b.1 ∧ RC w y a.2 n b.2) (k_Y_readPart_139 1838 xv1 xv2 xv3 xv4 xv5 xv6 g) (nk_Y_readPart_139 v1 v2 v3 v4 v5 v6 m) := by
  subst ev1
  subst ev2
  subst ev3
  subst ev4
  subst ev5
  subst ev6
  unfold k_Y_readPart_139 nk_Y_readPart_139
  refine y_Q hR hy ya91.1 (by decide) ?_
  refine rf_ck (fun h2 => ?_)
  refine y_sI hR hy ya91 yl91 rfl rv3 (e_sub rfl rfl) h2 (fun g6 m4 hR5 => ?_)
  refine rf_bind (fL_Y_readPart_154 hy rfl rv1 rfl rv2 rfl rv3 rfl rv4 rfl rv5 rfl rv6 rfl rv5 hR5) (fun a8 m7 h => ?_)
  have hR9 : RC w y a8 n m7 := h
  refine y_Q hR9 hy ya97.1 (by decide) ?_
  refine y_aI hR9 hy ya97 yl97 rfl rv4 (fun h11 h12 => ?_)
  refine rf_ck (fun h13 => ?_)
  refine y_sI hR9 hy ya97 yl97 rfl rv4 (e_add rfl (e_n 1)) h13 (fun g17 m15 hR16 => ?_)
  refine rf_bind (fL_Y_readPart_201 hy rfl rv1 rfl rv2 rfl rv3 rfl rv4 rfl rv6 hR16) (fun a b h => rf_us h (fun a b h => ?_) (fun a b h => rf_us h (fun a b h => ?_) (fun a b h => ?_)))
  · obtain ⟨a20, a21⟩ := a
    obtain ⟨z18, m19⟩ := b
    refine rf_u2 ?_
    obtain ⟨rfl, r23⟩ := (show RI a20 z18 from h.1)
    have hR22 : RC w y a21 n m19 := h.2
    exact rf_ok (by exact ⟨⟨rfl, r23⟩, hR22⟩)
  · obtain ⟨a27, a28⟩ := a
    obtain ⟨z25, m26⟩ := b
    refine rf_u2 ?_
    obtain ⟨rfl, r30⟩ := (show RI a27 z25 from h.1)
    have hR29 : RC w y a28 n m26 := h.2
    exact rf_ok (by exact ⟨⟨rfl, r30⟩, hR29⟩)
  · obtain ⟨a34, a35⟩ := a
    obtain ⟨z32, m33⟩ := b
    refine rf_u2 ?_
    obtain ⟨rfl, r37⟩ := (show RI a34 z32 from h.1)
    have hR36 : RC w y a35 n m33 := h.2
    exact fk_Y_readPart_450 hy rfl rv3 rfl r37 hR36
noncomputable def nk_Y_readPart_110 (v1 : Nat) (v2 : Int) (v3 : Int) (v4 : Int) (v5 : Int) (v6 : Int) (m : YS) : Option (Int × YS) :=
  if v6 < v2 then
    ix v6 (yLn v1 : Int) <|
    (N_Y_isSmall (m v1 v6) m).bind fun z5 =>
    if z5 = 0 then
      ix v6 (yLn v1 : Int) <|
      (N_Y_isDigit (m v1 v6) m).bind fun z12 =>
      if z12 = 0 then
        nk_Y_readPart_139 v1 v2 v3 v4 v5 v6 m
      else
        some (v6, m)
    else
      some (v6, m)
  else
    nk_Y_readPart_139 v1 v2 v3 v4 v5 v6 m
theorem fk_Y_readPart_110 {w y : Prop} {g : g_S} {n : NS} {m : YS} (hy : y) {xv1 : Nat} {v1 : Nat} (ev1 : xv1 = yAd v1) (rv1 : v1 < 186 ∧ yT v1 = 1) {xv2 : Int32} {v2 : Int} (ev2 : xv2 = Int32.ofInt v2) (rv2 : inR v2) {xv3 : Int32} {v3 : Int} (ev3 : xv3 = Int32.ofInt v3) (rv3 : inR v3) {xv4 : Int32} {v4 : Int} (ev4 : xv4 = Int32.ofInt v4) (rv4 : inR v4) {xv5 : Int32} {v5 : Int} (ev5 : xv5 = Int32.ofInt v5) (rv5 : inR v5) {xv6 : Int32} {v6 : Int} (ev6 : xv6 = Int32.ofInt v6) (rv6 : inR v6) (hR : RC w y g n m) : Rf (fun a b => RI a.1 b.1 ∧ RC w y a.2 n b.2) (k_Y_readPart_110 1838 xv1 xv2 xv3 xv4 xv5 xv6 g) (nk_Y_readPart_110 v1 v2 v3 v4 v5 v6 m) := by
  subst ev1
  subst ev2
  subst ev3
  subst ev4
  subst ev5
  subst ev6
  unfold k_Y_readPart_110 nk_Y_readPart_110
  refine rf_lt rfl rfl rv6 rv2 ?_ ?_
  · refine y_aB hR hy rv1 rfl rfl rv6 (fun h2 h3 => ?_)
    refine rf_bind (f_Y_isSmall hy rfl (inB.r h3) hR) (fun a7 z5 h => ?_)
    obtain ⟨rfl, r6⟩ := h
    refine rf_eq rfl (e_n 0) (inZ.r r6) (show inR 0 by decide) ?_ ?_
    · refine y_aB hR hy rv1 rfl rfl rv6 (fun h9 h10 => ?_)
      refine rf_bind (f_Y_isDigit hy rfl (inB.r h10) hR) (fun a14 z12 h => ?_)
      obtain ⟨rfl, r13⟩ := h
      refine rf_eq rfl (e_n 0) (inZ.r r13) (show inR 0 by decide) ?_ ?_
      · exact fk_Y_readPart_139 hy rfl rv1 rfl rv2 rfl rv3 rfl rv4 rfl rv5 rfl rv6 hR
      · exact rf_ok (by exact ⟨⟨rfl, rv6⟩, hR⟩)
    · exact rf_ok (by exact ⟨⟨rfl, rv6⟩, hR⟩)
  · exact fk_Y_readPart_139 hy rfl rv1 rfl rv2 rfl rv3 rfl rv4 rfl rv5 rfl rv6 hR
noncomputable def nk_Y_readPart_48 (v1 : Nat) (v2 : Int) (v3 : Int) (v4 : Int) (v5 : Int) (m : YS) : Option (Int × YS) :=
  if v5 < v2 then
    ix v5 (yLn v1 : Int) <|
    (N_Y_isSmall (m v1 v5) m).bind fun z5 =>
    if z5 = 0 then
      (NL_Y_readPart_201 v1 v2 v3 v4 v5 m).bind <|
        us (u2 fun z9 m10 =>
        some (z9, m10))
        (us (u2 fun z16 m17 =>
        some (z16, m17))
        (u2 fun z23 m24 =>
        nk_Y_readPart_450 v3 z23 m24))
    else
      (NL_Y_readPart_68 v1 v2 v3 v4 v5 v5 m).bind <| fun z29 =>
      nk_Y_readPart_110 v1 v2 v3 v4 v5 z29 m
  else
    (NL_Y_readPart_201 v1 v2 v3 v4 v5 m).bind <|
      us (u2 fun z32 m33 =>
      some (z32, m33))
      (us (u2 fun z39 m40 =>
      some (z39, m40))
      (u2 fun z46 m47 =>
      nk_Y_readPart_450 v3 z46 m47))
theorem fk_Y_readPart_48 {w y : Prop} {g : g_S} {n : NS} {m : YS} (hy : y) {xv1 : Nat} {v1 : Nat} (ev1 : xv1 = yAd v1) (rv1 : v1 < 186 ∧ yT v1 = 1) {xv2 : Int32} {v2 : Int} (ev2 : xv2 = Int32.ofInt v2) (rv2 : inR v2) {xv3 : Int32} {v3 : Int} (ev3 : xv3 = Int32.ofInt v3) (rv3 : inR v3) {xv4 : Int32} {v4 : Int} (ev4 : xv4 = Int32.ofInt v4) (rv4 : inR v4) {xv5 : Int32} {v5 : Int} (ev5 : xv5 = Int32.ofInt v5) (rv5 : inR v5) (hR : RC w y g n m) : Rf (fun a b => RI a.1 b.1 ∧ RC w y a.2 n b.2) (k_Y_readPart_48 1838 xv1 xv2 xv3 xv4 xv5 g) (nk_Y_readPart_48 v1 v2 v3 v4 v5 m) := by
  subst ev1
  subst ev2
  subst ev3
  subst ev4
  subst ev5
  unfold k_Y_readPart_48 nk_Y_readPart_48
  refine rf_lt rfl rfl rv5 rv2 ?_ ?_
  · refine y_aB hR hy rv1 rfl rfl rv5 (fun h2 h3 => ?_)
    refine rf_bind (f_Y_isSmall hy rfl (inB.r h3) hR) (fun a7 z5 h => ?_)
    obtain ⟨rfl, r6⟩ := h
    refine rf_eq rfl (e_n 0) (inZ.r r6) (show inR 0 by decide) ?_ ?_
    · refine rf_bind (fL_Y_readPart_201 hy rfl rv1 rfl rv2 rfl rv3 rfl rv4 rfl rv5 hR) (fun a b h => rf_us h (fun a b h => ?_) (fun a b h => rf_us h (fun a b h => ?_) (fun a b h => ?_)))
      · obtain ⟨a11, a12⟩ := a
        obtain ⟨z9, m10⟩ := b
        refine rf_u2 ?_
        obtain ⟨rfl, r14⟩ := (show RI a11 z9 from h.1)
        have hR13 : RC w y a12 n m10 := h.2
        exact rf_ok (by exact ⟨⟨rfl, r14⟩, hR13⟩)
      · obtain ⟨a18, a19⟩ := a
        obtain ⟨z16, m17⟩ := b
        refine rf_u2 ?_
        obtain ⟨rfl, r21⟩ := (show RI a18 z16 from h.1)
        have hR20 : RC w y a19 n m17 := h.2
        exact rf_ok (by exact ⟨⟨rfl, r21⟩, hR20⟩)
      · obtain ⟨a25, a26⟩ := a
        obtain ⟨z23, m24⟩ := b
        refine rf_u2 ?_
        obtain ⟨rfl, r28⟩ := (show RI a25 z23 from h.1)
        have hR27 : RC w y a26 n m24 := h.2
        exact fk_Y_readPart_450 hy rfl rv3 rfl r28 hR27
    · refine rf_bind (fL_Y_readPart_68 hy rfl rv1 rfl rv2 rfl rv3 rfl rv4 rfl rv5 rfl rv5 hR) (fun a30 z29 h => ?_)
      obtain ⟨rfl, r31⟩ := (show RI a30 z29 from h)
      exact fk_Y_readPart_110 hy rfl rv1 rfl rv2 rfl rv3 rfl rv4 rfl rv5 rfl r31 hR
  · refine rf_bind (fL_Y_readPart_201 hy rfl rv1 rfl rv2 rfl rv3 rfl rv4 rfl rv5 hR) (fun a b h => rf_us h (fun a b h => ?_) (fun a b h => rf_us h (fun a b h => ?_) (fun a b h => ?_)))
    · obtain ⟨a34, a35⟩ := a
      obtain ⟨z32, m33⟩ := b
      refine rf_u2 ?_
      obtain ⟨rfl, r37⟩ := (show RI a34 z32 from h.1)
      have hR36 : RC w y a35 n m33 := h.2
      exact rf_ok (by exact ⟨⟨rfl, r37⟩, hR36⟩)
    · obtain ⟨a41, a42⟩ := a
      obtain ⟨z39, m40⟩ := b
      refine rf_u2 ?_
      obtain ⟨rfl, r44⟩ := (show RI a41 z39 from h.1)
      have hR43 : RC w y a42 n m40 := h.2
      exact rf_ok (by exact ⟨⟨rfl, r44⟩, hR43⟩)
    · obtain ⟨a48, a49⟩ := a
      obtain ⟨z46, m47⟩ := b
      refine rf_u2 ?_
      obtain ⟨rfl, r51⟩ := (show RI a48 z46 from h.1)
      have hR50 : RC w y a49 n m47 := h.2
      exact fk_Y_readPart_450 hy rfl rv3 rfl r51 hR50
noncomputable def N_Y_readPart (v1 : Nat) (v2 : Int) (v3 : Int) (v4 : Int) (m : YS) : Option (Int × YS) :=
  ix v3 123 <|
  st (yw m 91 v3 0) fun m4 =>
  ix v3 123 <|
  st (yw m4 93 v3 0) fun m9 =>
  if (m 100 0) < v2 then
    ix (m 100 0) (yLn v1 : Int) <|
    if (m9 v1 (m 100 0)) = 42 then
      ix v3 123 <|
      st (yw m9 91 v3 (-1)) fun m18 =>
      ck ((m 100 0) + 1) <|
      (NL_Y_readPart_201 v1 v2 v3 v4 ((m 100 0) + 1) m18).bind <|
        us (u2 fun z22 m23 =>
        some (z22, m23))
        (us (u2 fun z29 m30 =>
        some (z29, m30))
        (u2 fun z36 m37 =>
        nk_Y_readPart_450 v3 z36 m37))
    else
      nk_Y_readPart_48 v1 v2 v3 v4 (m 100 0) m9
  else
    nk_Y_readPart_48 v1 v2 v3 v4 (m 100 0) m9
theorem f_Y_readPart {w y : Prop} {g : g_S} {n : NS} {m : YS} (hy : y) {xv1 : Nat} {v1 : Nat} (ev1 : xv1 = yAd v1) (rv1 : v1 < 186 ∧ yT v1 = 1) {xv2 : Int32} {v2 : Int} (ev2 : xv2 = Int32.ofInt v2) (rv2 : inR v2) {xv3 : Int32} {v3 : Int} (ev3 : xv3 = Int32.ofInt v3) (rv3 : inR v3) {xv4 : Int32} {v4 : Int} (ev4 : xv4 = Int32.ofInt v4) (rv4 : inR v4) (hR : RC w y g n m) : Rf (fun a b => RI a.1 b.1 ∧ RC w y a.2 n b.2) (M_Y_readPart 1838 xv1 xv2 xv3 xv4 g) (N_Y_readPart v1 v2 v3 v4 m) := by
  subst ev1
  subst ev2
  subst ev3
  subst ev4
  unfold M_Y_readPart N_Y_readPart
  refine y_I hR hy yk100 yt100 (fun h1 => ?_)
  refine y_Q hR hy ya91.1 (by decide) ?_
  refine y_sI hR hy ya91 yl91 rfl rv3 (e_n 0) (show inR 0 by decide) (fun g6 m4 hR5 => ?_)
  refine y_Q hR5 hy ya93.1 (by decide) ?_
  refine y_sI hR5 hy ya93 yl93 rfl rv3 (e_n 0) (show inR 0 by decide) (fun g11 m9 hR10 => ?_)
  refine rf_lt rfl rfl h1 rv2 ?_ ?_
  · refine y_aB hR10 hy rv1 rfl rfl h1 (fun h13 h14 => ?_)
    refine rf_eq rfl (e_n 42) (inB.r h14) (show inR 42 by decide) ?_ ?_
    · refine y_Q hR10 hy ya91.1 (by decide) ?_
      refine y_sI hR10 hy ya91 yl91 rfl rv3 (e_m 1) (show inR (-1) by decide) (fun g20 m18 hR19 => ?_)
      refine rf_ck (fun h21 => ?_)
      refine rf_bind (fL_Y_readPart_201 hy rfl rv1 rfl rv2 rfl rv3 rfl rv4 (e_add rfl (e_n 1)) h21 hR19) (fun a b h => rf_us h (fun a b h => ?_) (fun a b h => rf_us h (fun a b h => ?_) (fun a b h => ?_)))
      · obtain ⟨a24, a25⟩ := a
        obtain ⟨z22, m23⟩ := b
        refine rf_u2 ?_
        obtain ⟨rfl, r27⟩ := (show RI a24 z22 from h.1)
        have hR26 : RC w y a25 n m23 := h.2
        exact rf_ok (by exact ⟨⟨rfl, r27⟩, hR26⟩)
      · obtain ⟨a31, a32⟩ := a
        obtain ⟨z29, m30⟩ := b
        refine rf_u2 ?_
        obtain ⟨rfl, r34⟩ := (show RI a31 z29 from h.1)
        have hR33 : RC w y a32 n m30 := h.2
        exact rf_ok (by exact ⟨⟨rfl, r34⟩, hR33⟩)
      · obtain ⟨a38, a39⟩ := a
        obtain ⟨z36, m37⟩ := b
        refine rf_u2 ?_
        obtain ⟨rfl, r41⟩ := (show RI a38 z36 from h.1)
        have hR40 : RC w y a39 n m37 := h.2
        exact fk_Y_readPart_450 hy rfl rv3 rfl r41 hR40
    · exact fk_Y_readPart_48 hy rfl rv1 rfl rv2 rfl rv3 rfl rv4 rfl h1 hR10
  · exact fk_Y_readPart_48 hy rfl rv1 rfl rv2 rfl rv3 rfl rv4 rfl h1 hR10
noncomputable def nb_Y_readSelector_65 (v1 : Nat) (v2 : Int) (v3 : Int) (v4 : Int) (v7 : Int) (m : YS) : Option ((Int) ⊕ (Int)) :=
  if v7 < v2 then
    ix v7 (yLn v1 : Int) <|
    (N_Y_isBlank (m v1 v7) m).bind fun z5 =>
    if z5 = 0 then
      some (.inr v7)
    else
      ck (v7 + 1) <|
      some (.inl (v7 + 1))
  else
    some (.inr v7)
theorem fb_Y_readSelector_65 {w y : Prop} {g : g_S} {n : NS} {m : YS} (hy : y) {xv1 : Nat} {v1 : Nat} (ev1 : xv1 = yAd v1) (rv1 : v1 < 186 ∧ yT v1 = 1) {xv2 : Int32} {v2 : Int} (ev2 : xv2 = Int32.ofInt v2) (rv2 : inR v2) {xv3 : Int32} {v3 : Int} (ev3 : xv3 = Int32.ofInt v3) (rv3 : inR v3) {xv4 : Int32} {v4 : Int} (ev4 : xv4 = Int32.ofInt v4) (rv4 : inR v4) {xv7 : Int32} {v7 : Int} (ev7 : xv7 = Int32.ofInt v7) (rv7 : inR v7) (hR : RC w y g n m) : Rf (RS (fun a b => RI a b) (fun a b => RI a b)) (b_Y_readSelector_65 1838 xv1 xv2 xv3 xv4 xv7 g) (nb_Y_readSelector_65 v1 v2 v3 v4 v7 m) := by
  subst ev1
  subst ev2
  subst ev3
  subst ev4
  subst ev7
  unfold b_Y_readSelector_65 nb_Y_readSelector_65
  refine rf_lt rfl rfl rv7 rv2 ?_ ?_
  · refine y_aB hR hy rv1 rfl rfl rv7 (fun h2 h3 => ?_)
    refine rf_bind (f_Y_isBlank hy rfl (inB.r h3) hR) (fun a7 z5 h => ?_)
    obtain ⟨rfl, r6⟩ := h
    refine rf_eq rfl (e_n 0) (inZ.r r6) (show inR 0 by decide) ?_ ?_
    · exact rf_ok (by exact ⟨rfl, rv7⟩)
    · refine rf_ck (fun h9 => ?_)
      exact rf_ok (by exact ⟨(e_add rfl (e_n 1)), h9⟩)
  · exact rf_ok (by exact ⟨rfl, rv7⟩)
noncomputable def NL_Y_readSelector_65 (v1 : Nat) (v2 : Int) (v3 : Int) (v4 : Int) (v7 : Int) (m : YS) : Option (Int) :=
  it (fun s : Int => nb_Y_readSelector_65 v1 v2 v3 v4 s m) (v7)
theorem fL_Y_readSelector_65 {w y : Prop} {g : g_S} {n : NS} {m : YS} (hy : y) {xv1 : Nat} {v1 : Nat} (ev1 : xv1 = yAd v1) (rv1 : v1 < 186 ∧ yT v1 = 1) {xv2 : Int32} {v2 : Int} (ev2 : xv2 = Int32.ofInt v2) (rv2 : inR v2) {xv3 : Int32} {v3 : Int} (ev3 : xv3 = Int32.ofInt v3) (rv3 : inR v3) {xv4 : Int32} {v4 : Int} (ev4 : xv4 = Int32.ofInt v4) (rv4 : inR v4) {xv7 : Int32} {v7 : Int} (ev7 : xv7 = Int32.ofInt v7) (rv7 : inR v7) (hR : RC w y g n m) : Rf (fun a b => RI a b) (L_Y_readSelector_65 1838 xv1 xv2 xv3 xv4 xv7 g) (NL_Y_readSelector_65 v1 v2 v3 v4 v7 m) := by
  subst ev1
  subst ev2
  subst ev3
  subst ev4
  subst ev7
  unfold L_Y_readSelector_65 NL_Y_readSelector_65
  refine rf_it (I := (fun a b => RI a b)) (fun s t h => ?_) ⟨rfl, rv7⟩
  exact fb_Y_readSelector_65 hy rfl rv1 rfl rv2 rfl rv3 rfl rv4 h.1 h.2 hR
theorem NL_Y_readSelector_65_eq (v1 : Nat) (v2 : Int) (v3 : Int) (v4 : Int) (v7 : Int) (m : YS) : NL_Y_readSelector_65 v1 v2 v3 v4 v7 m = itc (nb_Y_readSelector_65 v1 v2 v3 v4 v7 m) (fun s => NL_Y_readSelector_65 v1 v2 v3 v4 s m) := it_eq2 (fun s : Int => nb_Y_readSelector_65 v1 v2 v3 v4 s m) (v7)
noncomputable def nk_Y_readSelector_131 (v1 : Nat) (v2 : Int) (v3 : Int) (v4 : Int) (v7 : Int) (w0 : Int) (m : YS) : Option ((Int × YS) ⊕ ((Int × YS) ⊕ (YS))) :=
  if w0 = 0 then
    some (.inl (w0, m))
  else
    st (yw m 100 0 v7) fun m3 =>
    some (.inl (w0, m3))
theorem fk_Y_readSelector_131 {w y : Prop} {g : g_S} {n : NS} {m : YS} (hy : y) {xv1 : Nat} {v1 : Nat} (ev1 : xv1 = yAd v1) (rv1 : v1 < 186 ∧ yT v1 = 1) {xv2 : Int32} {v2 : Int} (ev2 : xv2 = Int32.ofInt v2) (rv2 : inR v2) {xv3 : Int32} {v3 : Int} (ev3 : xv3 = Int32.ofInt v3) (rv3 : inR v3) {xv4 : Int32} {v4 : Int} (ev4 : xv4 = Int32.ofInt v4) (rv4 : inR v4) {xv7 : Int32} {v7 : Int} (ev7 : xv7 = Int32.ofInt v7) (rv7 : inR v7) {xw0 : Int32} {w0 : Int} (ew0 : xw0 = Int32.ofInt w0) (rw0 : inR w0) (hR : RC w y g n m) : Rf (RS (fun a b => RI a.1 b.1 ∧ RC w y a.2 n b.2) (RS (fun a b => RI a.1 b.1 ∧ RC w y a.2 n b.2) (fun a b => RC w y a n b))) (k_Y_readSelector_131 1838 xv1 xv2 xv3 xv4 xv7 xw0 g) (nk_Y_readSelector_131 v1 v2 v3 v4 v7 w0 m) := by
  subst ev1
  subst ev2
  subst ev3
  subst ev4
  subst ev7
  subst ew0
  unfold k_Y_readSelector_131 nk_Y_readSelector_131
  refine rf_eq rfl (e_n 0) rw0 (show inR 0 by decide) ?_ ?_
  · exact rf_ok (by exact ⟨⟨rfl, rw0⟩, hR⟩)
  · refine y_pI hR hy yk100 ⟨yt100, yz100⟩ rfl rv7 (fun g5 m3 hR4 => ?_)
    exact rf_ok (by exact ⟨⟨rfl, rw0⟩, hR4⟩)
noncomputable def nk_Y_readSelector_130 (v1 : Nat) (v2 : Int) (v3 : Int) (v4 : Int) (v7 : Int) (m : YS) : Option ((Int × YS) ⊕ ((Int × YS) ⊕ (YS))) :=
  nk_Y_readSelector_131 v1 v2 v3 v4 v7 0 m
theorem fk_Y_readSelector_130 {w y : Prop} {g : g_S} {n : NS} {m : YS} (hy : y) {xv1 : Nat} {v1 : Nat} (ev1 : xv1 = yAd v1) (rv1 : v1 < 186 ∧ yT v1 = 1) {xv2 : Int32} {v2 : Int} (ev2 : xv2 = Int32.ofInt v2) (rv2 : inR v2) {xv3 : Int32} {v3 : Int} (ev3 : xv3 = Int32.ofInt v3) (rv3 : inR v3) {xv4 : Int32} {v4 : Int} (ev4 : xv4 = Int32.ofInt v4) (rv4 : inR v4) {xv7 : Int32} {v7 : Int} (ev7 : xv7 = Int32.ofInt v7) (rv7 : inR v7) (hR : RC w y g n m) : Rf (RS (fun a b => RI a.1 b.1 ∧ RC w y a.2 n b.2) (RS (fun a b => RI a.1 b.1 ∧ RC w y a.2 n b.2) (fun a b => RC w y a n b))) (k_Y_readSelector_130 1838 xv1 xv2 xv3 xv4 xv7 g) (nk_Y_readSelector_130 v1 v2 v3 v4 v7 m) := by
  subst ev1
  subst ev2
  subst ev3
  subst ev4
  subst ev7
  unfold k_Y_readSelector_130 nk_Y_readSelector_130
  exact fk_Y_readSelector_131 hy rfl rv1 rfl rv2 rfl rv3 rfl rv4 rfl rv7 (e_n 0) (show inR 0 by decide) hR
noncomputable def nk_Y_readSelector_126 (v1 : Nat) (v2 : Int) (v3 : Int) (v4 : Int) (v7 : Int) (m : YS) : Option ((Int × YS) ⊕ ((Int × YS) ⊕ (YS))) :=
  nk_Y_readSelector_131 v1 v2 v3 v4 v7 1 m
theorem fk_Y_readSelector_126 {w y : Prop} {g : g_S} {n : NS} {m : YS} (hy : y) {xv1 : Nat} {v1 : Nat} (ev1 : xv1 = yAd v1) (rv1 : v1 < 186 ∧ yT v1 = 1) {xv2 : Int32} {v2 : Int} (ev2 : xv2 = Int32.ofInt v2) (rv2 : inR v2) {xv3 : Int32} {v3 : Int} (ev3 : xv3 = Int32.ofInt v3) (rv3 : inR v3) {xv4 : Int32} {v4 : Int} (ev4 : xv4 = Int32.ofInt v4) (rv4 : inR v4) {xv7 : Int32} {v7 : Int} (ev7 : xv7 = Int32.ofInt v7) (rv7 : inR v7) (hR : RC w y g n m) : Rf (RS (fun a b => RI a.1 b.1 ∧ RC w y a.2 n b.2) (RS (fun a b => RI a.1 b.1 ∧ RC w y a.2 n b.2) (fun a b => RC w y a n b))) (k_Y_readSelector_126 1838 xv1 xv2 xv3 xv4 xv7 g) (nk_Y_readSelector_126 v1 v2 v3 v4 v7 m) := by
  subst ev1
  subst ev2
  subst ev3
  subst ev4
  subst ev7
  unfold k_Y_readSelector_126 nk_Y_readSelector_126
  exact fk_Y_readSelector_131 hy rfl rv1 rfl rv2 rfl rv3 rfl rv4 rfl rv7 (e_n 1) (show inR 1 by decide) hR
noncomputable def nk_Y_readSelector_87 (v1 : Nat) (v2 : Int) (v3 : Int) (v4 : Int) (v7 : Int) (m : YS) : Option ((Int × YS) ⊕ ((Int × YS) ⊕ (YS))) :=
  if (m 100 0) < v7 then
    ix v3 41 <|
    if (m 90 v3) < 3 then
      if v4 = 0 then
        if v7 < v2 then
          ix v7 (yLn v1 : Int) <|
          if (m v1 v7) = 44 then
            nk_Y_readSelector_130 v1 v2 v3 v4 v7 m
          else
            nk_Y_readSelector_126 v1 v2 v3 v4 v7 m
        else
          nk_Y_readSelector_130 v1 v2 v3 v4 v7 m
      else
        nk_Y_readSelector_126 v1 v2 v3 v4 v7 m
    else
      nk_Y_readSelector_130 v1 v2 v3 v4 v7 m
  else
    nk_Y_readSelector_130 v1 v2 v3 v4 v7 m
theorem fk_Y_readSelector_87 {w y : Prop} {g : g_S} {n : NS} {m : YS} (hy : y) {xv1 : Nat} {v1 : Nat} (ev1 : xv1 = yAd v1) (rv1 : v1 < 186 ∧ yT v1 = 1) {xv2 : Int32} {v2 : Int} (ev2 : xv2 = Int32.ofInt v2) (rv2 : inR v2) {xv3 : Int32} {v3 : Int} (ev3 : xv3 = Int32.ofInt v3) (rv3 : inR v3) {xv4 : Int32} {v4 : Int} (ev4 : xv4 = Int32.ofInt v4) (rv4 : inR v4) {xv7 : Int32} {v7 : Int} (ev7 : xv7 = Int32.ofInt v7) (rv7 : inR v7) (hR : RC w y g n m) : Rf (RS (fun a b => RI a.1 b.1 ∧ RC w y a.2 n b.2) (RS (fun a b => RI a.1 b.1 ∧ RC w y a.2 n b.2) (fun a b => RC w y a n b))) (k_Y_readSelector_87 1838 xv1 xv2 xv3 xv4 xv7 g) (nk_Y_readSelector_87 v1 v2 v3 v4 v7 m) := by
  subst ev1
  subst ev2
  subst ev3
  subst ev4
  subst ev7
  unfold k_Y_readSelector_87 nk_Y_readSelector_87
  refine y_I hR hy yk100 yt100 (fun h1 => ?_)
  refine rf_lt rfl rfl h1 rv7 ?_ ?_
  · refine y_Q hR hy ya90.1 (by decide) ?_
    refine y_aI hR hy ya90 yl90 rfl rv3 (fun h4 h5 => ?_)
    refine rf_lt rfl (e_n 3) h5 (show inR 3 by decide) ?_ ?_
    · refine rf_eq rfl (e_n 0) rv4 (show inR 0 by decide) ?_ ?_
      · refine rf_lt rfl rfl rv7 rv2 ?_ ?_
        · refine y_aB hR hy rv1 rfl rfl rv7 (fun h9 h10 => ?_)
          refine rf_eq rfl (e_n 44) (inB.r h10) (show inR 44 by decide) ?_ ?_
          · exact fk_Y_readSelector_130 hy rfl rv1 rfl rv2 rfl rv3 rfl rv4 rfl rv7 hR
          · exact fk_Y_readSelector_126 hy rfl rv1 rfl rv2 rfl rv3 rfl rv4 rfl rv7 hR
        · exact fk_Y_readSelector_130 hy rfl rv1 rfl rv2 rfl rv3 rfl rv4 rfl rv7 hR
      · exact fk_Y_readSelector_126 hy rfl rv1 rfl rv2 rfl rv3 rfl rv4 rfl rv7 hR
    · exact fk_Y_readSelector_130 hy rfl rv1 rfl rv2 rfl rv3 rfl rv4 rfl rv7 hR
  · exact fk_Y_readSelector_130 hy rfl rv1 rfl rv2 rfl rv3 rfl rv4 rfl rv7 hR
noncomputable def nb_Y_readSelector_17 (v1 : Nat) (v2 : Int) (v3 : Int) (v4 : Int) (v5 : Int) (m : YS) : Option ((Int × YS) ⊕ ((Int × YS) ⊕ (YS))) :=
  if v5 = 0 then
    some (.inr (.inr m))
  else
    ck (3 * v3) <|
    ix v3 41 <|
    ck ((3 * v3) + (m 90 v3)) <|
    (N_Y_readPart v1 v2 ((3 * v3) + (m 90 v3)) v3 m).bind <| u2 fun z8 m11 =>
    if z8 < 0 then
      ix v3 41 <|
      ck ((m11 90 v3) + 1) <|
      ix v3 41 <|
      st (yw m11 90 v3 ((m11 90 v3) + 1)) fun m20 =>
      (NL_Y_readSelector_65 v1 v2 v3 v4 (m20 100 0) m20).bind <| fun z24 =>
      nk_Y_readSelector_87 v1 v2 v3 v4 z24 m20
    else
      some (.inr (.inl (z8, m11)))
theorem fb_Y_readSelector_17 {w y : Prop} {g : g_S} {n : NS} {m : YS} (hy : y) {xv1 : Nat} {v1 : Nat} (ev1 : xv1 = yAd v1) (rv1 : v1 < 186 ∧ yT v1 = 1) {xv2 : Int32} {v2 : Int} (ev2 : xv2 = Int32.ofInt v2) (rv2 : inR v2) {xv3 : Int32} {v3 : Int} (ev3 : xv3 = Int32.ofInt v3) (rv3 : inR v3) {xv4 : Int32} {v4 : Int} (ev4 : xv4 = Int32.ofInt v4) (rv4 : inR v4) {xv5 : Int32} {v5 : Int} (ev5 : xv5 = Int32.ofInt v5) (rv5 : inR v5) (hR : RC w y g n m) : Rf (RS (fun a b => RI a.1 b.1 ∧ RC w y a.2 n b.2) (RS (fun a b => RI a.1 b.1 ∧ RC w y a.2 n b.2) (fun a b => RC w y a n b))) (b_Y_readSelector_17 1838 xv1 xv2 xv3 xv4 xv5 g) (nb_Y_readSelector_17 v1 v2 v3 v4 v5 m) := by
  subst ev1
  subst ev2
  subst ev3
  subst ev4
  subst ev5
  unfold b_Y_readSelector_17 nb_Y_readSelector_17
  refine rf_eq rfl (e_n 0) rv5 (show inR 0 by decide) ?_ ?_
  · exact rf_ok (by exact hR)
  · refine rf_ck (fun h2 => ?_)
    refine y_Q hR hy ya90.1 (by decide) ?_
    refine y_aI hR hy ya90 yl90 rfl rv3 (fun h4 h5 => ?_)
    refine rf_ck (fun h6 => ?_)
    refine v_c2 (y_gt hR hy) ?_
    refine rf_c2 (f_Y_readPart hy rfl rv1 rfl rv2 (e_add (e_mul (e_n 3) rfl) rfl) h6 rfl rv3 hR) (fun a10 g13 b h => ?_)
    obtain ⟨z8, m11⟩ := b
    refine rf_v2 ?_
    obtain ⟨rfl, r9⟩ := (show RI a10 z8 from h.1)
    have hR12 : RC w y g13 n m11 := h.2
    refine rf_lt rfl (e_n 0) r9 (show inR 0 by decide) ?_ ?_
    · refine y_Q hR12 hy ya90.1 (by decide) ?_
      refine y_aI hR12 hy ya90 yl90 rfl rv3 (fun h16 h17 => ?_)
      refine rf_ck (fun h18 => ?_)
      refine y_sI hR12 hy ya90 yl90 rfl rv3 (e_add rfl (e_n 1)) h18 (fun g22 m20 hR21 => ?_)
      refine y_I hR21 hy yk100 yt100 (fun h23 => ?_)
      refine rf_bind (fL_Y_readSelector_65 hy rfl rv1 rfl rv2 rfl rv3 rfl rv4 rfl h23 hR21) (fun a25 z24 h => ?_)
      obtain ⟨rfl, r26⟩ := (show RI a25 z24 from h)
      exact fk_Y_readSelector_87 hy rfl rv1 rfl rv2 rfl rv3 rfl rv4 rfl r26 hR21
    · exact rf_ok (by exact ⟨⟨rfl, r9⟩, hR12⟩)
noncomputable def NL_Y_readSelector_17 (v1 : Nat) (v2 : Int) (v3 : Int) (v4 : Int) (v5 : Int) (m : YS) : Option ((Int × YS) ⊕ (YS)) :=
  it (fun s : Int × YS => nb_Y_readSelector_17 v1 v2 v3 v4 s.1 s.2) (v5, m)
theorem fL_Y_readSelector_17 {w y : Prop} {g : g_S} {n : NS} {m : YS} (hy : y) {xv1 : Nat} {v1 : Nat} (ev1 : xv1 = yAd v1) (rv1 : v1 < 186 ∧ yT v1 = 1) {xv2 : Int32} {v2 : Int} (ev2 : xv2 = Int32.ofInt v2) (rv2 : inR v2) {xv3 : Int32} {v3 : Int} (ev3 : xv3 = Int32.ofInt v3) (rv3 : inR v3) {xv4 : Int32} {v4 : Int} (ev4 : xv4 = Int32.ofInt v4) (rv4 : inR v4) {xv5 : Int32} {v5 : Int} (ev5 : xv5 = Int32.ofInt v5) (rv5 : inR v5) (hR : RC w y g n m) : Rf (RS (fun a b => RI a.1 b.1 ∧ RC w y a.2 n b.2) (fun a b => RC w y a n b)) (L_Y_readSelector_17 1838 xv1 xv2 xv3 xv4 xv5 g) (NL_Y_readSelector_17 v1 v2 v3 v4 v5 m) := by
  subst ev1
  subst ev2
  subst ev3
  subst ev4
  subst ev5
  unfold L_Y_readSelector_17 NL_Y_readSelector_17
  refine rf_it (I := (fun a b => RI a.1 b.1 ∧ RC w y a.2 n b.2)) (fun s t h => ?_) ⟨⟨rfl, rv5⟩, hR⟩
  exact fb_Y_readSelector_17 hy rfl rv1 rfl rv2 rfl rv3 rfl rv4 h.1.1 h.1.2 h.2
theorem NL_Y_readSelector_17_eq (v1 : Nat) (v2 : Int) (v3 : Int) (v4 : Int) (v5 : Int) (m : YS) : NL_Y_readSelector_17 v1 v2 v3 v4 v5 m = itc (nb_Y_readSelector_17 v1 v2 v3 v4 v5 m) (fun s => NL_Y_readSelector_17 v1 v2 v3 v4 s.1 s.2) := it_eq2 (fun s : Int × YS => nb_Y_readSelector_17 v1 v2 v3 v4 s.1 s.2) (v5, m)
noncomputable def N_Y_readSelector (v1 : Nat) (v2 : Int) (v3 : Int) (v4 : Int) (m : YS) : Option (Int × YS) :=
  ix v3 41 <|
  st (yw m 90 v3 0) fun m3 =>
  ix v3 41 <|
  st (yw m3 97 v3 0) fun m8 =>
  (NL_Y_readSelector_17 v1 v2 v3 v4 1 m8).bind <|
    us (u2 fun z11 m12 =>
    some (z11, m12))
    (fun m18 =>
    some ((-1), m18))
theorem f_Y_readSelector {w y : Prop} {g : g_S} {n : NS} {m : YS} (hy : y) {xv1 : Nat} {v1 : Nat} (ev1 : xv1 = yAd v1) (rv1 : v1 < 186 ∧ yT v1 = 1) {xv2 : Int32} {v2 : Int} (ev2 : xv2 = Int32.ofInt v2) (rv2 : inR v2) {xv3 : Int32} {v3 : Int} (ev3 : xv3 = Int32.ofInt v3) (rv3 : inR v3) {xv4 : Int32} {v4 : Int} (ev4 : xv4 = Int32.ofInt v4) (rv4 : inR v4) (hR : RC w y g n m) : Rf (fun a b => RI a.1 b.1 ∧ RC w y a.2 n b.2) (M_Y_readSelector 1838 xv1 xv2 xv3 xv4 g) (N_Y_readSelector v1 v2 v3 v4 m) := by
  subst ev1
  subst ev2
  subst ev3
  subst ev4
  unfold M_Y_readSelector N_Y_readSelector
  refine y_Q hR hy ya90.1 (by decide) ?_
  refine y_sI hR hy ya90 yl90 rfl rv3 (e_n 0) (show inR 0 by decide) (fun g5 m3 hR4 => ?_)
  refine y_Q hR4 hy ya97.1 (by decide) ?_
  refine y_sI hR4 hy ya97 yl97 rfl rv3 (e_n 0) (show inR 0 by decide) (fun g10 m8 hR9 => ?_)
  refine rf_bind (fL_Y_readSelector_17 hy rfl rv1 rfl rv2 rfl rv3 rfl rv4 (e_n 1) (show inR 1 by decide) hR9) (fun a b h => rf_us h (fun a b h => ?_) (fun a19 m18 h => ?_))
  · obtain ⟨a13, a14⟩ := a
    obtain ⟨z11, m12⟩ := b
    refine rf_u2 ?_
    obtain ⟨rfl, r16⟩ := (show RI a13 z11 from h.1)
    have hR15 : RC w y a14 n m12 := h.2
    exact rf_ok (by exact ⟨⟨rfl, r16⟩, hR15⟩)
  · have hR20 : RC w y a19 n m18 := h
    exact rf_ok (by exact ⟨⟨(e_m 1), (show inR (-1) by decide)⟩, hR20⟩)
noncomputable def nb_Y_hasClass_18 (v1 : Int) (v2 : Int) (v4 : Int) (v5 : Int) (v3 : Int) (m : YS) : Option ((Int) ⊕ (Int)) :=
  ix v1 480 <|
  if v3 < (m 60 v1) then
    ck (60 * v1) <|
    ck ((60 * v1) + v3) <|
    ix ((60 * v1) + v3) 28800 <|
    (N_Y_isBlank (m 59 ((60 * v1) + v3)) m).bind fun z11 =>
    if z11 = 0 then
      ck (v3 + 1) <|
      some (.inl (v3 + 1))
    else
      some (.inr v3)
  else
    some (.inr v3)
theorem fb_Y_hasClass_18 {w y : Prop} {g : g_S} {n : NS} {m : YS} (hy : y) {xv1 : Int32} {v1 : Int} (ev1 : xv1 = Int32.ofInt v1) (rv1 : inR v1) {xv2 : Int32} {v2 : Int} (ev2 : xv2 = Int32.ofInt v2) (rv2 : inR v2) {xv4 : Int32} {v4 : Int} (ev4 : xv4 = Int32.ofInt v4) (rv4 : inR v4) {xv5 : Int32} {v5 : Int} (ev5 : xv5 = Int32.ofInt v5) (rv5 : inR v5) {xv3 : Int32} {v3 : Int} (ev3 : xv3 = Int32.ofInt v3) (rv3 : inR v3) (hR : RC w y g n m) : Rf (RS (fun a b => RI a b) (fun a b => RI a b)) (b_Y_hasClass_18 1838 xv1 xv2 xv4 xv5 xv3 g) (nb_Y_hasClass_18 v1 v2 v4 v5 v3 m) := by
  subst ev1
  subst ev2
  subst ev4
  subst ev5
  subst ev3
  unfold b_Y_hasClass_18 nb_Y_hasClass_18
  refine y_Q hR hy ya60.1 (by decide) ?_
  refine y_aI hR hy ya60 yl60 rfl rv1 (fun h2 h3 => ?_)
  refine rf_lt rfl rfl rv3 h3 ?_ ?_
  · refine y_Q hR hy ya59.1 (by decide) ?_
    refine rf_ck (fun h6 => ?_)
    refine rf_ck (fun h7 => ?_)
    refine y_aB hR hy ya59 yl59 (e_add (e_mul (e_n 60) rfl) rfl) h7 (fun h8 h9 => ?_)
    refine rf_bind (f_Y_isBlank hy rfl (inB.r h9) hR) (fun a13 z11 h => ?_)
    obtain ⟨rfl, r12⟩ := h
    refine rf_eq rfl (e_n 0) (inZ.r r12) (show inR 0 by decide) ?_ ?_
    · refine rf_ck (fun h15 => ?_)
      exact rf_ok (by exact ⟨(e_add rfl (e_n 1)), h15⟩)
    · exact rf_ok (by exact ⟨rfl, rv3⟩)
  · exact rf_ok (by exact ⟨rfl, rv3⟩)
noncomputable def NL_Y_hasClass_18 (v1 : Int) (v2 : Int) (v4 : Int) (v5 : Int) (v3 : Int) (m : YS) : Option (Int) :=
  it (fun s : Int => nb_Y_hasClass_18 v1 v2 v4 v5 s m) (v3)
theorem fL_Y_hasClass_18 {w y : Prop} {g : g_S} {n : NS} {m : YS} (hy : y) {xv1 : Int32} {v1 : Int} (ev1 : xv1 = Int32.ofInt v1) (rv1 : inR v1) {xv2 : Int32} {v2 : Int} (ev2 : xv2 = Int32.ofInt v2) (rv2 : inR v2) {xv4 : Int32} {v4 : Int} (ev4 : xv4 = Int32.ofInt v4) (rv4 : inR v4) {xv5 : Int32} {v5 : Int} (ev5 : xv5 = Int32.ofInt v5) (rv5 : inR v5) {xv3 : Int32} {v3 : Int} (ev3 : xv3 = Int32.ofInt v3) (rv3 : inR v3) (hR : RC w y g n m) : Rf (fun a b => RI a b) (L_Y_hasClass_18 1838 xv1 xv2 xv4 xv5 xv3 g) (NL_Y_hasClass_18 v1 v2 v4 v5 v3 m) := by
  subst ev1
  subst ev2
  subst ev4
  subst ev5
  subst ev3
  unfold L_Y_hasClass_18 NL_Y_hasClass_18
  refine rf_it (I := (fun a b => RI a b)) (fun s t h => ?_) ⟨rfl, rv3⟩
  exact fb_Y_hasClass_18 hy rfl rv1 rfl rv2 rfl rv4 rfl rv5 h.1 h.2 hR
theorem NL_Y_hasClass_18_eq (v1 : Int) (v2 : Int) (v4 : Int) (v5 : Int) (v3 : Int) (m : YS) : NL_Y_hasClass_18 v1 v2 v4 v5 v3 m = itc (nb_Y_hasClass_18 v1 v2 v4 v5 v3 m) (fun s => NL_Y_hasClass_18 v1 v2 v4 v5 s m) := it_eq2 (fun s : Int => nb_Y_hasClass_18 v1 v2 v4 v5 s m) (v3)
noncomputable def nk_Y_hasClass_106 (v1 : Int) (v2 : Int) (v3 : Int) (m : YS) : Option ((Int × Int) ⊕ (Int)) :=
  ck (v3 + 1) <|
  some (.inl (v3 + 1, 1))
theorem fk_Y_hasClass_106 {w y : Prop} {g : g_S} {n : NS} {m : YS} (hy : y) {xv1 : Int32} {v1 : Int} (ev1 : xv1 = Int32.ofInt v1) (rv1 : inR v1) {xv2 : Int32} {v2 : Int} (ev2 : xv2 = Int32.ofInt v2) (rv2 : inR v2) {xv3 : Int32} {v3 : Int} (ev3 : xv3 = Int32.ofInt v3) (rv3 : inR v3) (hR : RC w y g n m) : Rf (RS (fun a b => RI a.1 b.1 ∧ RI a.2 b.2) (fun a b => RI a b)) (k_Y_hasClass_106 1838 xv1 xv2 xv3 g) (nk_Y_hasClass_106 v1 v2 v3 m) := by
  subst ev1
  subst ev2
  subst ev3
  unfold k_Y_hasClass_106 nk_Y_hasClass_106
  refine rf_ck (fun h1 => ?_)
  exact rf_ok (by exact ⟨⟨(e_add rfl (e_n 1)), h1⟩, ⟨(e_n 1), (show inR 1 by decide)⟩⟩)
noncomputable def nk_Y_hasClass_51 (v1 : Int) (v2 : Int) (v3 : Int) (v4 : Int) (v5 : Int) (m : YS) : Option ((Int × Int) ⊕ (Int)) :=
  if v4 = 0 then
    ck (v3 - v5) <|
    ix v2 492 <|
    if (v3 - v5) = (m 95 v2) then
      if v5 < v3 then
        ck (60 * v1) <|
        ck ((60 * v1) + v5) <|
        ck (8 * v2) <|
        ix v2 492 <|
        (N_Y_same 59 ((60 * v1) + v5) 96 (8 * v2) (m 95 v2) m).bind fun z17 =>
        if z17 = 0 then
          ck (v3 + 1) <|
          some (.inl (v3 + 1, 0))
        else
          nk_Y_hasClass_106 v1 v2 v3 m
      else
        ck (v3 + 1) <|
        some (.inl (v3 + 1, 0))
    else
      ck (v3 + 1) <|
      some (.inl (v3 + 1, 0))
  else
    nk_Y_hasClass_106 v1 v2 v3 m
theorem fk_Y_hasClass_51 {w y : Prop} {g : g_S} {n : NS} {m : YS} (hy : y) {xv1 : Int32} {v1 : Int} (ev1 : xv1 = Int32.ofInt v1) (rv1 : inR v1) {xv2 : Int32} {v2 : Int} (ev2 : xv2 = Int32.ofInt v2) (rv2 : inR v2) {xv3 : Int32} {v3 : Int} (ev3 : xv3 = Int32.ofInt v3) (rv3 : inR v3) {xv4 : Int32} {v4 : Int} (ev4 : xv4 = Int32.ofInt v4) (rv4 : inR v4) {xv5 : Int32} {v5 : Int} (ev5 : xv5 = Int32.ofInt v5) (rv5 : inR v5) (hR : RC w y g n m) : Rf (RS (fun a b => RI a.1 b.1 ∧ RI a.2 b.2) (fun a b => RI a b)) (k_Y_hasClass_51 1838 xv1 xv2 xv3 xv4 xv5 g) (nk_Y_hasClass_51 v1 v2 v3 v4 v5 m) := by
  subst ev1
  subst ev2
  subst ev3
  subst ev4
  subst ev5
  unfold k_Y_hasClass_51 nk_Y_hasClass_51
  refine rf_eq rfl (e_n 0) rv4 (show inR 0 by decide) ?_ ?_
  · refine rf_ck (fun h2 => ?_)
    refine y_Q hR hy ya95.1 (by decide) ?_
    refine y_aI hR hy ya95 yl95 rfl rv2 (fun h4 h5 => ?_)
    refine rf_eq (e_sub rfl rfl) rfl h2 h5 ?_ ?_
    · refine rf_lt rfl rfl rv5 rv3 ?_ ?_
      · refine y_Q hR hy ya59.1 (by decide) ?_
        refine rf_ck (fun h9 => ?_)
        refine rf_ck (fun h10 => ?_)
        refine y_Q hR hy ya96.1 (by decide) ?_
        refine rf_ck (fun h12 => ?_)
        refine y_Q hR hy ya95.1 (by decide) ?_
        refine y_aI hR hy ya95 yl95 rfl rv2 (fun h14 h15 => ?_)
        refine rf_bind (f_Y_same hy rfl ya59 (e_add (e_mul (e_n 60) rfl) rfl) h10 rfl ya96 (e_mul (e_n 8) rfl) h12 rfl h15 hR) (fun a19 z17 h => ?_)
        obtain ⟨rfl, r18⟩ := h
        refine rf_eq rfl (e_n 0) (inZ.r r18) (show inR 0 by decide) ?_ ?_
        · refine rf_ck (fun h21 => ?_)
          exact rf_ok (by exact ⟨⟨(e_add rfl (e_n 1)), h21⟩, ⟨(e_n 0), (show inR 0 by decide)⟩⟩)
        · exact fk_Y_hasClass_106 hy rfl rv1 rfl rv2 rfl rv3 hR
      · refine rf_ck (fun h22 => ?_)
        exact rf_ok (by exact ⟨⟨(e_add rfl (e_n 1)), h22⟩, ⟨(e_n 0), (show inR 0 by decide)⟩⟩)
    · refine rf_ck (fun h23 => ?_)
      exact rf_ok (by exact ⟨⟨(e_add rfl (e_n 1)), h23⟩, ⟨(e_n 0), (show inR 0 by decide)⟩⟩)
  · exact fk_Y_hasClass_106 hy rfl rv1 rfl rv2 rfl rv3 hR
noncomputable def nb_Y_hasClass_5 (v1 : Int) (v2 : Int) (v3 : Int) (v4 : Int) (m : YS) : Option ((Int × Int) ⊕ (Int)) :=
  ix v1 480 <|
  if v3 < (m 60 v1) then
    (NL_Y_hasClass_18 v1 v2 v4 v3 v3 m).bind <| fun z5 =>
    nk_Y_hasClass_51 v1 v2 z5 v4 v3 m
  else
    some (.inr v4)
theorem fb_Y_hasClass_5 {w y : Prop} {g : g_S} {n : NS} {m : YS} (hy : y) {xv1 : Int32} {v1 : Int} (ev1 : xv1 = Int32.ofInt v1) (rv1 : inR v1) {xv2 : Int32} {v2 : Int} (ev2 : xv2 = Int32.ofInt v2) (rv2 : inR v2) {xv3 : Int32} {v3 : Int} (ev3 : xv3 = Int32.ofInt v3) (rv3 : inR v3) {xv4 : Int32} {v4 : Int} (ev4 : xv4 = Int32.ofInt v4) (rv4 : inR v4) (hR : RC w y g n m) : Rf (RS (fun a b => RI a.1 b.1 ∧ RI a.2 b.2) (fun a b => RI a b)) (b_Y_hasClass_5 1838 xv1 xv2 xv3 xv4 g) (nb_Y_hasClass_5 v1 v2 v3 v4 m) := by
  subst ev1
  subst ev2
  subst ev3
  subst ev4
  unfold b_Y_hasClass_5 nb_Y_hasClass_5
  refine y_Q hR hy ya60.1 (by decide) ?_
  refine y_aI hR hy ya60 yl60 rfl rv1 (fun h2 h3 => ?_)
  refine rf_lt rfl rfl rv3 h3 ?_ ?_
  · refine rf_bind (fL_Y_hasClass_18 hy rfl rv1 rfl rv2 rfl rv4 rfl rv3 rfl rv3 hR) (fun a6 z5 h => ?_)
    obtain ⟨rfl, r7⟩ := (show RI a6 z5 from h)
    exact fk_Y_hasClass_51 hy rfl rv1 rfl rv2 rfl r7 rfl rv4 rfl rv3 hR
  · exact rf_ok (by exact ⟨rfl, rv4⟩)
noncomputable def NL_Y_hasClass_5 (v1 : Int) (v2 : Int) (v3 : Int) (v4 : Int) (m : YS) : Option (Int) :=
  it (fun s : Int × Int => nb_Y_hasClass_5 v1 v2 s.1 s.2 m) (v3, v4)
theorem fL_Y_hasClass_5 {w y : Prop} {g : g_S} {n : NS} {m : YS} (hy : y) {xv1 : Int32} {v1 : Int} (ev1 : xv1 = Int32.ofInt v1) (rv1 : inR v1) {xv2 : Int32} {v2 : Int} (ev2 : xv2 = Int32.ofInt v2) (rv2 : inR v2) {xv3 : Int32} {v3 : Int} (ev3 : xv3 = Int32.ofInt v3) (rv3 : inR v3) {xv4 : Int32} {v4 : Int} (ev4 : xv4 = Int32.ofInt v4) (rv4 : inR v4) (hR : RC w y g n m) : Rf (fun a b => RI a b) (L_Y_hasClass_5 1838 xv1 xv2 xv3 xv4 g) (NL_Y_hasClass_5 v1 v2 v3 v4 m) := by
  subst ev1
  subst ev2
  subst ev3
  subst ev4
  unfold L_Y_hasClass_5 NL_Y_hasClass_5
  refine rf_it (I := (fun a b => RI a.1 b.1 ∧ RI a.2 b.2)) (fun s t h => ?_) ⟨⟨rfl, rv3⟩, ⟨rfl, rv4⟩⟩
  exact fb_Y_hasClass_5 hy rfl rv1 rfl rv2 h.1.1 h.1.2 h.2.1 h.2.2 hR
theorem NL_Y_hasClass_5_eq (v1 : Int) (v2 : Int) (v3 : Int) (v4 : Int) (m : YS) : NL_Y_hasClass_5 v1 v2 v3 v4 m = itc (nb_Y_hasClass_5 v1 v2 v3 v4 m) (fun s => NL_Y_hasClass_5 v1 v2 s.1 s.2 m) := it_eq2 (fun s : Int × Int => nb_Y_hasClass_5 v1 v2 s.1 s.2 m) (v3, v4)
noncomputable def N_Y_hasClass (v1 : Int) (v2 : Int) (m : YS) : Option (Int) :=
  (NL_Y_hasClass_5 v1 v2 0 0 m).bind <| fun z1 =>
  cz z1 <|
  some z1
theorem f_Y_hasClass {w y : Prop} {g : g_S} {n : NS} {m : YS} (hy : y) {xv1 : Int32} {v1 : Int} (ev1 : xv1 = Int32.ofInt v1) (rv1 : inR v1) {xv2 : Int32} {v2 : Int} (ev2 : xv2 = Int32.ofInt v2) (rv2 : inR v2) (hR : RC w y g n m) : Rf (fun a b => RZ a b) (M_Y_hasClass 1838 xv1 xv2 g) (N_Y_hasClass v1 v2 m) := by
  subst ev1
  subst ev2
  unfold M_Y_hasClass N_Y_hasClass
  refine rf_bind (fL_Y_hasClass_5 hy rfl rv1 rfl rv2 (e_n 0) (show inR 0 by decide) (e_n 0) (show inR 0 by decide) hR) (fun a2 z1 h => ?_)
  obtain ⟨rfl, r3⟩ := (show RI a2 z1 from h)
  refine rf_cz (fun h5 => ?_)
  refine rf_tz rfl h5 ?_
  exact rf_ok (by exact ⟨rfl, h5⟩)
noncomputable def nk_Y_matchesPart_89 (v1 : Int) (v2 : Int) (v4 : Int) (w0 : Int) (w1 : Int) (m : YS) : Option ((Int) ⊕ ((Unit) ⊕ (Unit) ⊕ (Unit) ⊕ (Unit))) :=
  (N_Y_attributeOf w1 w0 m).bind fun z2 =>
  if z2 = (-1) then
    some (.inr (.inl ()))
  else
    ix v4 492 <|
    if (m 94 v4) = 35 then
      ix z2 480 <|
      ix v4 492 <|
      if (m 60 z2) = (m 95 v4) then
        ck (60 * z2) <|
        ck (8 * v4) <|
        ix v4 492 <|
        (N_Y_same 59 (60 * z2) 96 (8 * v4) (m 95 v4) m).bind fun z25 =>
        if z25 = 0 then
          some (.inr (.inr (.inl ())))
        else
          ck (v4 + 1) <|
          some (.inl (v4 + 1))
      else
        some (.inr (.inr (.inl ())))
    else
      (N_Y_hasClass z2 v4 m).bind fun z31 =>
      if z31 = 0 then
        some (.inr (.inr (.inr (.inl ()))))
      else
        ck (v4 + 1) <|
        some (.inl (v4 + 1))
theorem fk_Y_matchesPart_89 {w y : Prop} {g : g_S} {n : NS} {m : YS} (hy : y) {xv1 : Int32} {v1 : Int} (ev1 : xv1 = Int32.ofInt v1) (rv1 : inR v1) {xv2 : Int32} {v2 : Int} (ev2 : xv2 = Int32.ofInt v2) (rv2 : inR v2) {xv4 : Int32} {v4 : Int} (ev4 : xv4 = Int32.ofInt v4) (rv4 : inR v4) {xw0 : Int64} {w0 : Int} (ew0 : xw0 = Int64.ofInt w0) (rw0 : inL w0) {xw1 : Int32} {w1 : Int} (ew1 : xw1 = Int32.ofInt w1) (rw1 : inR w1) (hR : RC w y g n m) : Rf (RS (fun a b => RI a b) (RS (fun _ _ => True) (RS (fun _ _ => True) (RS (fun _ _ => True) (fun _ _ => True))))) (k_Y_matchesPart_89 1838 xv1 xv2 xv4 xw0 xw1 1838 g) (nk_Y_matchesPart_89 v1 v2 v4 w0 w1 m) := by
  subst ev1
  subst ev2
  subst ev4
  subst ew0
  subst ew1
  unfold k_Y_matchesPart_89 nk_Y_matchesPart_89
  refine v_c (y_gt hR hy) ?_
  refine rf_bind (f_Y_attributeOf hy rfl rw1 rfl rw0 hR) (fun a4 z2 h => ?_)
  obtain ⟨rfl, r3⟩ := h
  refine rf_eq rfl (e_m 1) r3 (show inR (-1) by decide) ?_ ?_
  · exact rf_ok (by exact trivial)
  · refine y_Q hR hy ya94.1 (by decide) ?_
    refine y_aI hR hy ya94 yl94 rfl rv4 (fun h7 h8 => ?_)
    refine rf_eq rfl (e_n 35) h8 (show inR 35 by decide) ?_ ?_
    · refine y_Q hR hy ya60.1 (by decide) ?_
      refine y_aI hR hy ya60 yl60 rfl r3 (fun h11 h12 => ?_)
      refine y_Q hR hy ya95.1 (by decide) ?_
      refine y_aI hR hy ya95 yl95 rfl rv4 (fun h14 h15 => ?_)
      refine rf_eq rfl rfl h12 h15 ?_ ?_
      · refine y_Q hR hy ya59.1 (by decide) ?_
        refine rf_ck (fun h18 => ?_)
        refine y_Q hR hy ya96.1 (by decide) ?_
        refine rf_ck (fun h20 => ?_)
        refine y_Q hR hy ya95.1 (by decide) ?_
        refine y_aI hR hy ya95 yl95 rfl rv4 (fun h22 h23 => ?_)
        refine rf_bind (f_Y_same hy rfl ya59 (e_mul (e_n 60) rfl) h18 rfl ya96 (e_mul (e_n 8) rfl) h20 rfl h23 hR) (fun a27 z25 h => ?_)
        obtain ⟨rfl, r26⟩ := h
        refine rf_eq rfl (e_n 0) (inZ.r r26) (show inR 0 by decide) ?_ ?_
        · exact rf_ok (by exact trivial)
        · refine rf_ck (fun h29 => ?_)
          exact rf_ok (by exact ⟨(e_add rfl (e_n 1)), h29⟩)
      · exact rf_ok (by exact trivial)
    · refine v_c (y_gt hR hy) ?_
      refine rf_bind (f_Y_hasClass hy rfl r3 rfl rv4 hR) (fun a33 z31 h => ?_)
      obtain ⟨rfl, r32⟩ := h
      refine rf_eq rfl (e_n 0) (inZ.r r32) (show inR 0 by decide) ?_ ?_
      · exact rf_ok (by exact trivial)
      · refine rf_ck (fun h35 => ?_)
        exact rf_ok (by exact ⟨(e_add rfl (e_n 1)), h35⟩)
noncomputable def nb_Y_matchesPart_51 (v1 : Int) (v2 : Int) (v4 : Int) (m : YS) : Option ((Int) ⊕ ((Unit) ⊕ (Unit) ⊕ (Unit) ⊕ (Unit))) :=
  ck (4 * v2) <|
  ix v2 123 <|
  ck ((4 * v2) + (m 93 v2)) <|
  if v4 < ((4 * v2) + (m 93 v2)) then
    ix v4 492 <|
    if (m 94 v4) = 35 then
      nk_Y_matchesPart_89 v1 v2 v4 137 v1 m
    else
      nk_Y_matchesPart_89 v1 v2 v4 20546947 v1 m
  else
    some (.inr (.inr (.inr (.inr ()))))
theorem fb_Y_matchesPart_51 {w y : Prop} {g : g_S} {n : NS} {m : YS} (hy : y) {xv1 : Int32} {v1 : Int} (ev1 : xv1 = Int32.ofInt v1) (rv1 : inR v1) {xv2 : Int32} {v2 : Int} (ev2 : xv2 = Int32.ofInt v2) (rv2 : inR v2) {xv4 : Int32} {v4 : Int} (ev4 : xv4 = Int32.ofInt v4) (rv4 : inR v4) (hR : RC w y g n m) : Rf (RS (fun a b => RI a b) (RS (fun _ _ => True) (RS (fun _ _ => True) (RS (fun _ _ => True) (fun _ _ => True))))) (b_Y_matchesPart_51 1838 xv1 xv2 xv4 g) (nb_Y_matchesPart_51 v1 v2 v4 m) := by
  subst ev1
  subst ev2
  subst ev4
  unfold b_Y_matchesPart_51 nb_Y_matchesPart_51
  refine rf_ck (fun h1 => ?_)
  refine y_Q hR hy ya93.1 (by decide) ?_
  refine y_aI hR hy ya93 yl93 rfl rv2 (fun h3 h4 => ?_)
  refine rf_ck (fun h5 => ?_)
  refine rf_lt rfl (e_add (e_mul (e_n 4) rfl) rfl) rv4 h5 ?_ ?_
  · refine y_Q hR hy ya94.1 (by decide) ?_
    refine y_aI hR hy ya94 yl94 rfl rv4 (fun h8 h9 => ?_)
    refine rf_eq rfl (e_n 35) h9 (show inR 35 by decide) ?_ ?_
    · exact fk_Y_matchesPart_89 hy rfl rv1 rfl rv2 rfl rv4 (f_n 137) (show inL 137 by decide) rfl rv1 hR
    · exact fk_Y_matchesPart_89 hy rfl rv1 rfl rv2 rfl rv4 (f_n 20546947) (show inL 20546947 by decide) rfl rv1 hR
  · exact rf_ok (by exact trivial)
noncomputable def NL_Y_matchesPart_51 (v1 : Int) (v2 : Int) (v4 : Int) (m : YS) : Option ((Unit) ⊕ (Unit) ⊕ (Unit) ⊕ (Unit)) :=
  it (fun s : Int => nb_Y_matchesPart_51 v1 v2 s m) (v4)
theorem fL_Y_matchesPart_51 {w y : Prop} {g : g_S} {n : NS} {m : YS} (hy : y) {xv1 : Int32} {v1 : Int} (ev1 : xv1 = Int32.ofInt v1) (rv1 : inR v1) {xv2 : Int32} {v2 : Int} (ev2 : xv2 = Int32.ofInt v2) (rv2 : inR v2) {xv4 : Int32} {v4 : Int} (ev4 : xv4 = Int32.ofInt v4) (rv4 : inR v4) (hR : RC w y g n m) : Rf (RS (fun _ _ => True) (RS (fun _ _ => True) (RS (fun _ _ => True) (fun _ _ => True)))) (L_Y_matchesPart_51 1838 xv1 xv2 xv4 g) (NL_Y_matchesPart_51 v1 v2 v4 m) := by
  subst ev1
  subst ev2
  subst ev4
  unfold L_Y_matchesPart_51 NL_Y_matchesPart_51
  refine rf_it (I := (fun a b => RI a b)) (fun s t h => ?_) ⟨rfl, rv4⟩
  exact fb_Y_matchesPart_51 hy rfl rv1 rfl rv2 h.1 h.2 hR
theorem NL_Y_matchesPart_51_eq (v1 : Int) (v2 : Int) (v4 : Int) (m : YS) : NL_Y_matchesPart_51 v1 v2 v4 m = itc (nb_Y_matchesPart_51 v1 v2 v4 m) (fun s => NL_Y_matchesPart_51 v1 v2 s m) := it_eq2 (fun s : Int => nb_Y_matchesPart_51 v1 v2 s m) (v4)
noncomputable def nk_Y_matchesPart_46 (v1 : Int) (v2 : Int) (m : YS) : Option (Int) :=
  ck (4 * v2) <|
  (NL_Y_matchesPart_51 v1 v2 (4 * v2) m).bind <|
    us (fun _ =>
    some 0)
    (us (fun _ =>
    some 0)
    (us (fun _ =>
    some 0)
    (fun _ =>
    some 1)))
theorem fk_Y_matchesPart_46 {w y : Prop} {g : g_S} {n : NS} {m : YS} (hy : y) {xv1 : Int32} {v1 : Int} (ev1 : xv1 = Int32.ofInt v1) (rv1 : inR v1) {xv2 : Int32} {v2 : Int} (ev2 : xv2 = Int32.ofInt v2) (rv2 : inR v2) (hR : RC w y g n m) : Rf (fun a b => RZ a b) (k_Y_matchesPart_46 1838 xv1 xv2 g) (nk_Y_matchesPart_46 v1 v2 m) := by
  subst ev1
  subst ev2
  unfold k_Y_matchesPart_46 nk_Y_matchesPart_46
  refine rf_ck (fun h1 => ?_)
  refine rf_bind (fL_Y_matchesPart_51 hy rfl rv1 rfl rv2 (e_mul (e_n 4) rfl) h1 hR) (fun a b h => rf_us h (fun a b h => ?_) (fun a b h => rf_us h (fun a b h => ?_) (fun a b h => rf_us h (fun a b h => ?_) (fun a b h => ?_))))
  · exact rf_ok (by exact ⟨(e_n 0), (.inl rfl)⟩)
  · exact rf_ok (by exact ⟨(e_n 0), (.inl rfl)⟩)
  · exact rf_ok (by exact ⟨(e_n 0), (.inl rfl)⟩)
  · exact rf_ok (by exact ⟨(e_n 1), (.inr rfl)⟩)
noncomputable def N_Y_matchesPart (v1 : Int) (v2 : Int) (m : YS) : Option (Int) :=
  ix v2 123 <|
  if 0 < (m 91 v2) then
    ix v1 120 <|
    if (m 48 v1) = (m 91 v2) then
      ck (8 * v1) <|
      ck (8 * v2) <|
      (N_Y_same 47 (8 * v1) 92 (8 * v2) (m 91 v2) m).bind fun z14 =>
      if z14 = 0 then
        some 0
      else
        nk_Y_matchesPart_46 v1 v2 m
    else
      some 0
  else
    nk_Y_matchesPart_46 v1 v2 m
theorem f_Y_matchesPart {w y : Prop} {g : g_S} {n : NS} {m : YS} (hy : y) {xv1 : Int32} {v1 : Int} (ev1 : xv1 = Int32.ofInt v1) (rv1 : inR v1) {xv2 : Int32} {v2 : Int} (ev2 : xv2 = Int32.ofInt v2) (rv2 : inR v2) (hR : RC w y g n m) : Rf (fun a b => RZ a b) (M_Y_matchesPart 1838 xv1 xv2 g) (N_Y_matchesPart v1 v2 m) := by
  subst ev1
  subst ev2
  unfold M_Y_matchesPart N_Y_matchesPart
  refine y_Q hR hy ya91.1 (by decide) ?_
  refine y_aI hR hy ya91 yl91 rfl rv2 (fun h2 h3 => ?_)
  refine rf_lt (e_n 0) rfl (show inR 0 by decide) h3 ?_ ?_
  · refine y_Q hR hy ya48.1 (by decide) ?_
    refine y_aI hR hy ya48 yl48 rfl rv1 (fun h6 h7 => ?_)
    refine rf_eq rfl rfl h7 h3 ?_ ?_
    · refine y_Q hR hy ya47.1 (by decide) ?_
      refine rf_ck (fun h10 => ?_)
      refine y_Q hR hy ya92.1 (by decide) ?_
      refine rf_ck (fun h12 => ?_)
      refine rf_bind (f_Y_same hy rfl ya47 (e_mul (e_n 8) rfl) h10 rfl ya92 (e_mul (e_n 8) rfl) h12 rfl h3 hR) (fun a16 z14 h => ?_)
      obtain ⟨rfl, r15⟩ := h
      refine rf_eq rfl (e_n 0) (inZ.r r15) (show inR 0 by decide) ?_ ?_
      · exact rf_ok (by exact ⟨(e_n 0), (.inl rfl)⟩)
      · exact fk_Y_matchesPart_46 hy rfl rv1 rfl rv2 hR
    · exact rf_ok (by exact ⟨(e_n 0), (.inl rfl)⟩)
  · exact fk_Y_matchesPart_46 hy rfl rv1 rfl rv2 hR
noncomputable def nk_Y_matches_62 (v2 : Int) (v3 : Int) (v4 : Int) (m : YS) : Option ((Int × Int) ⊕ (Int)) :=
  ix v4 120 <|
  some (.inl (v3, (m 49 v4)))
theorem fk_Y_matches_62 {w y : Prop} {g : g_S} {n : NS} {m : YS} (hy : y) {xv2 : Int32} {v2 : Int} (ev2 : xv2 = Int32.ofInt v2) (rv2 : inR v2) {xv3 : Int32} {v3 : Int} (ev3 : xv3 = Int32.ofInt v3) (rv3 : inR v3) {xv4 : Int32} {v4 : Int} (ev4 : xv4 = Int32.ofInt v4) (rv4 : inR v4) (hR : RC w y g n m) : Rf (RS (fun a b => RI a.1 b.1 ∧ RI a.2 b.2) (fun a b => RI a b)) (k_Y_matches_62 1838 xv2 xv3 xv4 g) (nk_Y_matches_62 v2 v3 v4 m) := by
  subst ev2
  subst ev3
  subst ev4
  unfold k_Y_matches_62 nk_Y_matches_62
  refine y_Q hR hy ya49.1 (by decide) ?_
  refine y_aI hR hy ya49 yl49 rfl rv4 (fun h2 h3 => ?_)
  exact rf_ok (by exact ⟨⟨rfl, rv3⟩, ⟨rfl, h3⟩⟩)
noncomputable def nb_Y_matches_35 (v2 : Int) (v3 : Int) (v4 : Int) (m : YS) : Option ((Int × Int) ⊕ (Int)) :=
  if v3 < 0 then
    some (.inr v3)
  else
    if v4 = (-1) then
      some (.inr v3)
    else
      ck (3 * v2) <|
      ck ((3 * v2) + v3) <|
      (N_Y_matchesPart v4 ((3 * v2) + v3) m).bind fun z6 =>
      if z6 = 0 then
        nk_Y_matches_62 v2 v3 v4 m
      else
        ck (v3 + (-1)) <|
        nk_Y_matches_62 v2 (v3 + (-1)) v4 m
theorem fb_Y_matches_35 {w y : Prop} {g : g_S} {n : NS} {m : YS} (hy : y) {xv2 : Int32} {v2 : Int} (ev2 : xv2 = Int32.ofInt v2) (rv2 : inR v2) {xv3 : Int32} {v3 : Int} (ev3 : xv3 = Int32.ofInt v3) (rv3 : inR v3) {xv4 : Int32} {v4 : Int} (ev4 : xv4 = Int32.ofInt v4) (rv4 : inR v4) (hR : RC w y g n m) : Rf (RS (fun a b => RI a.1 b.1 ∧ RI a.2 b.2) (fun a b => RI a b)) (b_Y_matches_35 1838 xv2 xv3 xv4 g) (nb_Y_matches_35 v2 v3 v4 m) := by
  subst ev2
  subst ev3
  subst ev4
  unfold b_Y_matches_35 nb_Y_matches_35
  refine rf_lt rfl (e_n 0) rv3 (show inR 0 by decide) ?_ ?_
  · exact rf_ok (by exact ⟨rfl, rv3⟩)
  · refine rf_eq rfl (e_m 1) rv4 (show inR (-1) by decide) ?_ ?_
    · exact rf_ok (by exact ⟨rfl, rv3⟩)
    · refine rf_ck (fun h3 => ?_)
      refine rf_ck (fun h4 => ?_)
      refine v_c (y_gt hR hy) ?_
      refine rf_bind (f_Y_matchesPart hy rfl rv4 (e_add (e_mul (e_n 3) rfl) rfl) h4 hR) (fun a8 z6 h => ?_)
      obtain ⟨rfl, r7⟩ := h
      refine rf_eq rfl (e_n 0) (inZ.r r7) (show inR 0 by decide) ?_ ?_
      · exact fk_Y_matches_62 hy rfl rv2 rfl rv3 rfl rv4 hR
      · refine rf_ck (fun h10 => ?_)
        exact fk_Y_matches_62 hy rfl rv2 (e_add rfl (e_m 1)) h10 rfl rv4 hR
noncomputable def NL_Y_matches_35 (v2 : Int) (v3 : Int) (v4 : Int) (m : YS) : Option (Int) :=
  it (fun s : Int × Int => nb_Y_matches_35 v2 s.1 s.2 m) (v3, v4)
theorem fL_Y_matches_35 {w y : Prop} {g : g_S} {n : NS} {m : YS} (hy : y) {xv2 : Int32} {v2 : Int} (ev2 : xv2 = Int32.ofInt v2) (rv2 : inR v2) {xv3 : Int32} {v3 : Int} (ev3 : xv3 = Int32.ofInt v3) (rv3 : inR v3) {xv4 : Int32} {v4 : Int} (ev4 : xv4 = Int32.ofInt v4) (rv4 : inR v4) (hR : RC w y g n m) : Rf (fun a b => RI a b) (L_Y_matches_35 1838 xv2 xv3 xv4 g) (NL_Y_matches_35 v2 v3 v4 m) := by
  subst ev2
  subst ev3
  subst ev4
  unfold L_Y_matches_35 NL_Y_matches_35
  refine rf_it (I := (fun a b => RI a.1 b.1 ∧ RI a.2 b.2)) (fun s t h => ?_) ⟨⟨rfl, rv3⟩, ⟨rfl, rv4⟩⟩
  exact fb_Y_matches_35 hy rfl rv2 h.1.1 h.1.2 h.2.1 h.2.2 hR
theorem NL_Y_matches_35_eq (v2 : Int) (v3 : Int) (v4 : Int) (m : YS) : NL_Y_matches_35 v2 v3 v4 m = itc (nb_Y_matches_35 v2 v3 v4 m) (fun s => NL_Y_matches_35 v2 s.1 s.2 m) := it_eq2 (fun s : Int × Int => nb_Y_matches_35 v2 s.1 s.2 m) (v3, v4)
noncomputable def nk_Y_matches_74 (v3 : Int) (m : YS) : Option (Int) :=
  if v3 < 0 then
    some 1
  else
    some 0
theorem fk_Y_matches_74 {w y : Prop} {g : g_S} {n : NS} {m : YS} (hy : y) {xv3 : Int32} {v3 : Int} (ev3 : xv3 = Int32.ofInt v3) (rv3 : inR v3) (hR : RC w y g n m) : Rf (fun a b => RZ a b) (k_Y_matches_74 xv3 g) (nk_Y_matches_74 v3 m) := by
  subst ev3
  unfold k_Y_matches_74 nk_Y_matches_74
  refine rf_lt rfl (e_n 0) rv3 (show inR 0 by decide) ?_ ?_
  · exact rf_ok (by exact ⟨(e_n 1), (.inr rfl)⟩)
  · exact rf_ok (by exact ⟨(e_n 0), (.inl rfl)⟩)
noncomputable def N_Y_matches (v1 : Int) (v2 : Int) (m : YS) : Option (Int) :=
  ix v2 41 <|
  ck ((m 90 v2) - 1) <|
  ck (3 * v2) <|
  ck ((3 * v2) + ((m 90 v2) - 1)) <|
  (N_Y_matchesPart v1 ((3 * v2) + ((m 90 v2) - 1)) m).bind fun z8 =>
  if z8 = 0 then
    some 0
  else
    ix v1 120 <|
    ck (((m 90 v2) - 1) + (-1)) <|
    (NL_Y_matches_35 v2 (((m 90 v2) - 1) + (-1)) (m 49 v1) m).bind <| fun z17 =>
    nk_Y_matches_74 z17 m
theorem f_Y_matches {w y : Prop} {g : g_S} {n : NS} {m : YS} (hy : y) {xv1 : Int32} {v1 : Int} (ev1 : xv1 = Int32.ofInt v1) (rv1 : inR v1) {xv2 : Int32} {v2 : Int} (ev2 : xv2 = Int32.ofInt v2) (rv2 : inR v2) (hR : RC w y g n m) : Rf (fun a b => RZ a b) (M_Y_matches 1838 xv1 xv2 g) (N_Y_matches v1 v2 m) := by
  subst ev1
  subst ev2
  unfold M_Y_matches N_Y_matches
  refine y_Q hR hy ya90.1 (by decide) ?_
  refine y_aI hR hy ya90 yl90 rfl rv2 (fun h2 h3 => ?_)
  refine rf_ck (fun h4 => ?_)
  refine rf_ck (fun h5 => ?_)
  refine rf_ck (fun h6 => ?_)
  refine v_c (y_gt hR hy) ?_
  refine rf_bind (f_Y_matchesPart hy rfl rv1 (e_add (e_mul (e_n 3) rfl) (e_sub rfl (e_n 1))) h6 hR) (fun a10 z8 h => ?_)
  obtain ⟨rfl, r9⟩ := h
  refine rf_eq rfl (e_n 0) (inZ.r r9) (show inR 0 by decide) ?_ ?_
  · exact rf_ok (by exact ⟨(e_n 0), (.inl rfl)⟩)
  · refine y_Q hR hy ya49.1 (by decide) ?_
    refine y_aI hR hy ya49 yl49 rfl rv1 (fun h14 h15 => ?_)
    refine rf_ck (fun h16 => ?_)
    refine rf_bind (fL_Y_matches_35 hy rfl rv2 (e_add (e_sub rfl (e_n 1)) (e_m 1)) h16 rfl h15 hR) (fun a18 z17 h => ?_)
    obtain ⟨rfl, r19⟩ := (show RI a18 z17 from h)
    exact fk_Y_matches_74 hy rfl r19 hR
noncomputable def nk_Y_select_116 (v3 : Int) (m : YS) : Option ((Int × YS) ⊕ (YS)) :=
  (N_Y_after v3 0 m).bind fun z2 =>
  some (.inl (z2, m))
theorem fk_Y_select_116 {w y : Prop} {g : g_S} {n : NS} {m : YS} (hy : y) {xv3 : Int32} {v3 : Int} (ev3 : xv3 = Int32.ofInt v3) (rv3 : inR v3) (hR : RC w y g n m) : Rf (RS (fun a b => RI a.1 b.1 ∧ RC w y a.2 n b.2) (fun a b => RC w y a n b)) (k_Y_select_116 1838 xv3 g) (nk_Y_select_116 v3 m) := by
  subst ev3
  unfold k_Y_select_116 nk_Y_select_116
  refine v_c (y_gt hR hy) ?_
  refine rf_bind (f_Y_after hy rfl rv3 (e_n 0) (show inR 0 by decide) hR) (fun a4 z2 h => ?_)
  obtain ⟨rfl, r3⟩ := h
  exact rf_ok (by exact ⟨⟨rfl, r3⟩, hR⟩)
noncomputable def nb_Y_select_70 (v3 : Int) (m : YS) : Option ((Int × YS) ⊕ (YS)) :=
  if v3 = (-1) then
    some (.inr m)
  else
    ix v3 120 <|
    if (m 46 v3) = 17 then
      nk_Y_select_116 v3 m
    else
      (N_Y_matches v3 40 m).bind fun z7 =>
      if z7 = 0 then
        nk_Y_select_116 v3 m
      else
        ix (m 185 0) 120 <|
        st (yw m 184 (m 185 0) v3) fun m14 =>
        ck ((m14 185 0) + 1) <|
        st (yw m14 185 0 ((m14 185 0) + 1)) fun m20 =>
        nk_Y_select_116 v3 m20
theorem fb_Y_select_70 {w y : Prop} {g : g_S} {n : NS} {m : YS} (hy : y) {xv3 : Int32} {v3 : Int} (ev3 : xv3 = Int32.ofInt v3) (rv3 : inR v3) (hR : RC w y g n m) : Rf (RS (fun a b => RI a.1 b.1 ∧ RC w y a.2 n b.2) (fun a b => RC w y a n b)) (b_Y_select_70 1838 xv3 g) (nb_Y_select_70 v3 m) := by
  subst ev3
  unfold b_Y_select_70 nb_Y_select_70
  refine rf_eq rfl (e_m 1) rv3 (show inR (-1) by decide) ?_ ?_
  · exact rf_ok (by exact hR)
  · refine y_Q hR hy ya46.1 (by decide) ?_
    refine y_aI hR hy ya46 yl46 rfl rv3 (fun h3 h4 => ?_)
    refine rf_eq rfl (e_n 17) h4 (show inR 17 by decide) ?_ ?_
    · exact fk_Y_select_116 hy rfl rv3 hR
    · refine v_c (y_gt hR hy) ?_
      refine rf_bind (f_Y_matches hy rfl rv3 (e_n 40) (show inR 40 by decide) hR) (fun a9 z7 h => ?_)
      obtain ⟨rfl, r8⟩ := h
      refine rf_eq rfl (e_n 0) (inZ.r r8) (show inR 0 by decide) ?_ ?_
      · exact fk_Y_select_116 hy rfl rv3 hR
      · refine y_Q hR hy ya184.1 (by decide) ?_
        refine y_I hR hy yk185 yt185 (fun h12 => ?_)
        refine y_sI hR hy ya184 yl184 rfl h12 rfl rv3 (fun g16 m14 hR15 => ?_)
        refine y_I hR15 hy yk185 yt185 (fun h17 => ?_)
        refine rf_ck (fun h18 => ?_)
        refine y_pI hR15 hy yk185 ⟨yt185, yz185⟩ (e_add rfl (e_n 1)) h18 (fun g22 m20 hR21 => ?_)
        exact fk_Y_select_116 hy rfl rv3 hR21
noncomputable def NL_Y_select_70 (v3 : Int) (m : YS) : Option (YS) :=
  it (fun s : Int × YS => nb_Y_select_70 s.1 s.2) (v3, m)
theorem fL_Y_select_70 {w y : Prop} {g : g_S} {n : NS} {m : YS} (hy : y) {xv3 : Int32} {v3 : Int} (ev3 : xv3 = Int32.ofInt v3) (rv3 : inR v3) (hR : RC w y g n m) : Rf (fun a b => RC w y a n b) (L_Y_select_70 1838 xv3 g) (NL_Y_select_70 v3 m) := by
  subst ev3
  unfold L_Y_select_70 NL_Y_select_70
  refine rf_it (I := (fun a b => RI a.1 b.1 ∧ RC w y a.2 n b.2)) (fun s t h => ?_) ⟨⟨rfl, rv3⟩, hR⟩
  exact fb_Y_select_70 hy h.1.1 h.1.2 h.2
theorem NL_Y_select_70_eq (v3 : Int) (m : YS) : NL_Y_select_70 v3 m = itc (nb_Y_select_70 v3 m) (fun s => NL_Y_select_70 s.1 s.2) := it_eq2 (fun s : Int × YS => nb_Y_select_70 s.1 s.2) (v3, m)
noncomputable def N_Y_select (m : YS) : Option (Int × YS) :=
  (N_Y_take m).bind <| u2 fun z2 m5 =>
  if z2 < 0 then
    st (yw m5 100 0 0) fun m10 =>
    (N_Y_readSelector 2 (m10 3 0) 40 1 m10).bind <| u2 fun z16 m19 =>
    if z16 < 0 then
      if (m19 100 0) < (m19 3 0) then
        (N_Y_wrong (m19 100 0) m19).bind fun z28 =>
        some (z28, m19)
      else
        st (yw m19 185 0 0) fun m33 =>
        (NL_Y_select_70 0 m33).bind <| fun m36 =>
        some ((m36 185 0), m36)
    else
      (N_Y_wrong z16 m19).bind fun z42 =>
      some (z42, m19)
  else
    (N_Y_wrong z2 m5).bind fun z47 =>
    some (z47, m5)
theorem f_Y_select {w y : Prop} {g : g_S} {n : NS} {m : YS} (hy : y) (hR : RC w y g n m) : Rf (fun a b => RI a.1 b.1 ∧ RC w y a.2 n b.2) (M_Y_select 1838 g) (N_Y_select m) := by
  unfold M_Y_select N_Y_select
  refine v_c2 (y_gt hR hy) ?_
  refine rf_c2 (f_Y_take hy hR) (fun a4 g7 b h => ?_)
  obtain ⟨z2, m5⟩ := b
  refine rf_v2 ?_
  obtain ⟨rfl, r3⟩ := (show RI a4 z2 from h.1)
  have hR6 : RC w y g7 n m5 := h.2
  refine rf_lt rfl (e_n 0) r3 (show inR 0 by decide) ?_ ?_
  · refine y_pI hR6 hy yk100 ⟨yt100, yz100⟩ (e_n 0) (show inR 0 by decide) (fun g12 m10 hR11 => ?_)
    refine y_Q hR11 hy ya2.1 (by decide) ?_
    refine y_I hR11 hy yk3 yt3 (fun h14 => ?_)
    refine v_c2 (y_gt hR11 hy) ?_
    refine rf_c2 (f_Y_readSelector hy rfl ya2 rfl h14 (e_n 40) (show inR 40 by decide) (e_n 1) (show inR 1 by decide) hR11) (fun a18 g21 b h => ?_)
    obtain ⟨z16, m19⟩ := b
    refine rf_v2 ?_
    obtain ⟨rfl, r17⟩ := (show RI a18 z16 from h.1)
    have hR20 : RC w y g21 n m19 := h.2
    refine rf_lt rfl (e_n 0) r17 (show inR 0 by decide) ?_ ?_
    · refine y_I hR20 hy yk100 yt100 (fun h23 => ?_)
      refine y_I hR20 hy yk3 yt3 (fun h24 => ?_)
      refine rf_lt rfl rfl h23 h24 ?_ ?_
      · refine y_I hR20 hy yk100 yt100 (fun h26 => ?_)
        refine rf_bind (f_Y_wrong hy rfl h26 hR20) (fun a30 z28 h => ?_)
        obtain ⟨rfl, r29⟩ := h
        exact rf_ok (by exact ⟨⟨rfl, r29⟩, hR20⟩)
      · refine y_pI hR20 hy yk185 ⟨yt185, yz185⟩ (e_n 0) (show inR 0 by decide) (fun g35 m33 hR34 => ?_)
        refine rf_bind (fL_Y_select_70 hy (e_n 0) (show inR 0 by decide) hR34) (fun a37 m36 h => ?_)
        have hR38 : RC w y a37 n m36 := h
        refine y_I hR38 hy yk185 yt185 (fun h39 => ?_)
        exact rf_ok (by exact ⟨⟨rfl, h39⟩, hR38⟩)
    · refine rf_bind (f_Y_wrong hy rfl r17 hR20) (fun a44 z42 h => ?_)
      obtain ⟨rfl, r43⟩ := h
      exact rf_ok (by exact ⟨⟨rfl, r43⟩, hR20⟩)
  · refine rf_bind (f_Y_wrong hy rfl r3 hR6) (fun a49 z47 h => ?_)
    obtain ⟨rfl, r48⟩ := h
    exact rf_ok (by exact ⟨⟨rfl, r48⟩, hR6⟩)
noncomputable def N_Y_found (v1 : Int) (m : YS) : Option (Int) :=
  if v1 < 0 then
    some (-1)
  else
    if v1 < (m 185 0) then
      ix v1 120 <|
      some (m 184 v1)
    else
      some (-1)
theorem f_Y_found {w y : Prop} {g : g_S} {n : NS} {m : YS} (hy : y) {xv1 : Int32} {v1 : Int} (ev1 : xv1 = Int32.ofInt v1) (rv1 : inR v1) (hR : RC w y g n m) : Rf (fun a b => RI a b) (M_Y_found 1838 xv1 g) (N_Y_found v1 m) := by
  subst ev1
  unfold M_Y_found N_Y_found
  refine rf_lt rfl (e_n 0) rv1 (show inR 0 by decide) ?_ ?_
  · exact rf_ok (by exact ⟨(e_m 1), (show inR (-1) by decide)⟩)
  · refine y_I hR hy yk185 yt185 (fun h3 => ?_)
    refine rf_lt rfl rfl rv1 h3 ?_ ?_
    · refine y_Q hR hy ya184.1 (by decide) ?_
      refine y_aI hR hy ya184 yl184 rfl rv1 (fun h6 h7 => ?_)
      exact rf_ok (by exact ⟨rfl, h7⟩)
    · exact rf_ok (by exact ⟨(e_m 1), (show inR (-1) by decide)⟩)
noncomputable def nb_Y_blanks_2 (v2 : Int) (v3 : Int) (m : YS) : Option ((Int) ⊕ (Int)) :=
  if v3 < v2 then
    ix v3 400 <|
    (N_Y_isBlank (m 101 v3) m).bind fun z6 =>
    if z6 = 0 then
      some (.inr v3)
    else
      ck (v3 + 1) <|
      some (.inl (v3 + 1))
  else
    some (.inr v3)
theorem fb_Y_blanks_2 {w y : Prop} {g : g_S} {n : NS} {m : YS} (hy : y) {xv2 : Int32} {v2 : Int} (ev2 : xv2 = Int32.ofInt v2) (rv2 : inR v2) {xv3 : Int32} {v3 : Int} (ev3 : xv3 = Int32.ofInt v3) (rv3 : inR v3) (hR : RC w y g n m) : Rf (RS (fun a b => RI a b) (fun a b => RI a b)) (b_Y_blanks_2 1838 xv2 xv3 g) (nb_Y_blanks_2 v2 v3 m) := by
  subst ev2
  subst ev3
  unfold b_Y_blanks_2 nb_Y_blanks_2
  refine rf_lt rfl rfl rv3 rv2 ?_ ?_
  · refine y_Q hR hy ya101.1 (by decide) ?_
    refine y_aB hR hy ya101 yl101 rfl rv3 (fun h3 h4 => ?_)
    refine rf_bind (f_Y_isBlank hy rfl (inB.r h4) hR) (fun a8 z6 h => ?_)
    obtain ⟨rfl, r7⟩ := h
    refine rf_eq rfl (e_n 0) (inZ.r r7) (show inR 0 by decide) ?_ ?_
    · exact rf_ok (by exact ⟨rfl, rv3⟩)
    · refine rf_ck (fun h10 => ?_)
      exact rf_ok (by exact ⟨(e_add rfl (e_n 1)), h10⟩)
  · exact rf_ok (by exact ⟨rfl, rv3⟩)
noncomputable def NL_Y_blanks_2 (v2 : Int) (v3 : Int) (m : YS) : Option (Int) :=
  it (fun s : Int => nb_Y_blanks_2 v2 s m) (v3)
theorem fL_Y_blanks_2 {w y : Prop} {g : g_S} {n : NS} {m : YS} (hy : y) {xv2 : Int32} {v2 : Int} (ev2 : xv2 = Int32.ofInt v2) (rv2 : inR v2) {xv3 : Int32} {v3 : Int} (ev3 : xv3 = Int32.ofInt v3) (rv3 : inR v3) (hR : RC w y g n m) : Rf (fun a b => RI a b) (L_Y_blanks_2 1838 xv2 xv3 g) (NL_Y_blanks_2 v2 v3 m) := by
  subst ev2
  subst ev3
  unfold L_Y_blanks_2 NL_Y_blanks_2
  refine rf_it (I := (fun a b => RI a b)) (fun s t h => ?_) ⟨rfl, rv3⟩
  exact fb_Y_blanks_2 hy rfl rv2 h.1 h.2 hR
theorem NL_Y_blanks_2_eq (v2 : Int) (v3 : Int) (m : YS) : NL_Y_blanks_2 v2 v3 m = itc (nb_Y_blanks_2 v2 v3 m) (fun s => NL_Y_blanks_2 v2 s m) := it_eq2 (fun s : Int => nb_Y_blanks_2 v2 s m) (v3)
noncomputable def N_Y_blanks (v1 : Int) (v2 : Int) (m : YS) : Option (Int) :=
  (NL_Y_blanks_2 v2 v1 m).bind <| fun z1 =>
  some z1
theorem f_Y_blanks {w y : Prop} {g : g_S} {n : NS} {m : YS} (hy : y) {xv1 : Int32} {v1 : Int} (ev1 : xv1 = Int32.ofInt v1) (rv1 : inR v1) {xv2 : Int32} {v2 : Int} (ev2 : xv2 = Int32.ofInt v2) (rv2 : inR v2) (hR : RC w y g n m) : Rf (fun a b => RI a b) (M_Y_blanks 1838 xv1 xv2 g) (N_Y_blanks v1 v2 m) := by
  subst ev1
  subst ev2
  unfold M_Y_blanks N_Y_blanks
  refine rf_bind (fL_Y_blanks_2 hy rfl rv2 rfl rv1 hR) (fun a2 z1 h => ?_)
  obtain ⟨rfl, r3⟩ := (show RI a2 z1 from h)
  exact rf_ok (by exact ⟨rfl, r3⟩)
noncomputable def N_Y_property (v0 : Int) (m : YS) : Option (Int) :=
  if v0 = 0 then
    some 26890226980
  else if v0 = 1 then
    some 19378659
  else if v0 = 2 then
    some 156868923460642
  else if v0 = 3 then
    some 479447085
  else if v0 = 4 then
    some 7995527216
  else if v0 = 5 then
    some 609372642
  else if v0 = 6 then
    some 9048375
  else if v0 = 7 then
    some 679716008
  else if v0 = 8 then
    some 190771
  else if v0 = 9 then
    some 14919041
  else
    some 21020038
theorem f_Y_property {w y : Prop} {g : g_S} {n : NS} {m : YS} (hy : y) {xv0 : Int32} {v0 : Int} (ev0 : xv0 = Int32.ofInt v0) (rv0 : inR v0) (hR : RC w y g n m) : Rf (fun a b => RJ a b) (M_Y_property xv0 g) (N_Y_property v0 m) := by
  subst ev0
  unfold M_Y_property N_Y_property
  refine rf_eq rfl (e_n 0) rv0 (show inR 0 by decide) ?_ ?_
  · exact rf_ok (by exact ⟨(f_n 26890226980), (show inL 26890226980 by decide)⟩)
  refine rf_eq rfl (e_n 1) rv0 (show inR 1 by decide) ?_ ?_
  · exact rf_ok (by exact ⟨(f_n 19378659), (show inL 19378659 by decide)⟩)
  refine rf_eq rfl (e_n 2) rv0 (show inR 2 by decide) ?_ ?_
  · exact rf_ok (by exact ⟨(f_n 156868923460642), (show inL 156868923460642 by decide)⟩)
  refine rf_eq rfl (e_n 3) rv0 (show inR 3 by decide) ?_ ?_
  · exact rf_ok (by exact ⟨(f_n 479447085), (show inL 479447085 by decide)⟩)
  refine rf_eq rfl (e_n 4) rv0 (show inR 4 by decide) ?_ ?_
  · exact rf_ok (by exact ⟨(f_n 7995527216), (show inL 7995527216 by decide)⟩)
  refine rf_eq rfl (e_n 5) rv0 (show inR 5 by decide) ?_ ?_
  · exact rf_ok (by exact ⟨(f_n 609372642), (show inL 609372642 by decide)⟩)
  refine rf_eq rfl (e_n 6) rv0 (show inR 6 by decide) ?_ ?_
  · exact rf_ok (by exact ⟨(f_n 9048375), (show inL 9048375 by decide)⟩)
  refine rf_eq rfl (e_n 7) rv0 (show inR 7 by decide) ?_ ?_
  · exact rf_ok (by exact ⟨(f_n 679716008), (show inL 679716008 by decide)⟩)
  refine rf_eq rfl (e_n 8) rv0 (show inR 8 by decide) ?_ ?_
  · exact rf_ok (by exact ⟨(f_n 190771), (show inL 190771 by decide)⟩)
  refine rf_eq rfl (e_n 9) rv0 (show inR 9 by decide) ?_ ?_
  · exact rf_ok (by exact ⟨(f_n 14919041), (show inL 14919041 by decide)⟩)
  exact rf_ok (by exact ⟨(f_n 21020038), (show inL 21020038 by decide)⟩)
noncomputable def N_Y_wordOf (v0 : Int) (v1 : Int) (m : YS) : Option (Int) :=
  if v0 = 0 then
    if v1 = 0 then
      some 11648386
    else
      if v1 = 1 then
        some 182759881
      else
        if v1 = 2 then
          some 178670
        else
          if v1 = 3 then
            some 791942
          else
            some 0
  else
    if v0 = 9 then
      if v1 = 0 then
        some 661676
      else
        if v1 = 1 then
          some 609892515
        else
          if v1 = 2 then
            some 21241138
          else
            some 0
    else
      if v1 = 0 then
        some 178670
      else
        if v1 = 1 then
          some 661676
        else
          if v1 = 2 then
            some 21241138
          else
            some 0
theorem f_Y_wordOf {w y : Prop} {g : g_S} {n : NS} {m : YS} (hy : y) {xv0 : Int32} {v0 : Int} (ev0 : xv0 = Int32.ofInt v0) (rv0 : inR v0) {xv1 : Int32} {v1 : Int} (ev1 : xv1 = Int32.ofInt v1) (rv1 : inR v1) (hR : RC w y g n m) : Rf (fun a b => RJ a b) (M_Y_wordOf xv0 xv1 g) (N_Y_wordOf v0 v1 m) := by
  subst ev0
  subst ev1
  unfold M_Y_wordOf N_Y_wordOf
  refine rf_eq rfl (e_n 0) rv0 (show inR 0 by decide) ?_ ?_
  · refine rf_eq rfl (e_n 0) rv1 (show inR 0 by decide) ?_ ?_
    · exact rf_ok (by exact ⟨(f_n 11648386), (show inL 11648386 by decide)⟩)
    · refine rf_eq rfl (e_n 1) rv1 (show inR 1 by decide) ?_ ?_
      · exact rf_ok (by exact ⟨(f_n 182759881), (show inL 182759881 by decide)⟩)
      · refine rf_eq rfl (e_n 2) rv1 (show inR 2 by decide) ?_ ?_
        · exact rf_ok (by exact ⟨(f_n 178670), (show inL 178670 by decide)⟩)
        · refine rf_eq rfl (e_n 3) rv1 (show inR 3 by decide) ?_ ?_
          · exact rf_ok (by exact ⟨(f_n 791942), (show inL 791942 by decide)⟩)
          · exact rf_ok (by exact ⟨(f_n 0), (show inL 0 by decide)⟩)
  · refine rf_eq rfl (e_n 9) rv0 (show inR 9 by decide) ?_ ?_
    · refine rf_eq rfl (e_n 0) rv1 (show inR 0 by decide) ?_ ?_
      · exact rf_ok (by exact ⟨(f_n 661676), (show inL 661676 by decide)⟩)
      · refine rf_eq rfl (e_n 1) rv1 (show inR 1 by decide) ?_ ?_
        · exact rf_ok (by exact ⟨(f_n 609892515), (show inL 609892515 by decide)⟩)
        · refine rf_eq rfl (e_n 2) rv1 (show inR 2 by decide) ?_ ?_
          · exact rf_ok (by exact ⟨(f_n 21241138), (show inL 21241138 by decide)⟩)
          · exact rf_ok (by exact ⟨(f_n 0), (show inL 0 by decide)⟩)
    · refine rf_eq rfl (e_n 0) rv1 (show inR 0 by decide) ?_ ?_
      · exact rf_ok (by exact ⟨(f_n 178670), (show inL 178670 by decide)⟩)
      · refine rf_eq rfl (e_n 1) rv1 (show inR 1 by decide) ?_ ?_
        · exact rf_ok (by exact ⟨(f_n 661676), (show inL 661676 by decide)⟩)
        · refine rf_eq rfl (e_n 2) rv1 (show inR 2 by decide) ?_ ?_
          · exact rf_ok (by exact ⟨(f_n 21241138), (show inL 21241138 by decide)⟩)
          · exact rf_ok (by exact ⟨(f_n 0), (show inL 0 by decide)⟩)
noncomputable def nb_Y_readValue_13 (v1 : Int) (v2 : Int) (v3 : Int) (v4 : Int) (m : YS) : Option ((Int) ⊕ (Int)) :=
  if v4 < v3 then
    ix v4 400 <|
    (N_Y_isSmall (m 101 v4) m).bind fun z6 =>
    if z6 = 0 then
      some (.inr v4)
    else
      ck (v4 + 1) <|
      some (.inl (v4 + 1))
  else
    some (.inr v4)
theorem fb_Y_readValue_13 {w y : Prop} {g : g_S} {n : NS} {m : YS} (hy : y) {xv1 : Int32} {v1 : Int} (ev1 : xv1 = Int32.ofInt v1) (rv1 : inR v1) {xv2 : Int32} {v2 : Int} (ev2 : xv2 = Int32.ofInt v2) (rv2 : inR v2) {xv3 : Int32} {v3 : Int} (ev3 : xv3 = Int32.ofInt v3) (rv3 : inR v3) {xv4 : Int32} {v4 : Int} (ev4 : xv4 = Int32.ofInt v4) (rv4 : inR v4) (hR : RC w y g n m) : Rf (RS (fun a b => RI a b) (fun a b => RI a b)) (b_Y_readValue_13 1838 xv1 xv2 xv3 xv4 g) (nb_Y_readValue_13 v1 v2 v3 v4 m) := by
  subst ev1
  subst ev2
  subst ev3
  subst ev4
  unfold b_Y_readValue_13 nb_Y_readValue_13
  refine rf_lt rfl rfl rv4 rv3 ?_ ?_
  · refine y_Q hR hy ya101.1 (by decide) ?_
    refine y_aB hR hy ya101 yl101 rfl rv4 (fun h3 h4 => ?_)
    refine rf_bind (f_Y_isSmall hy rfl (inB.r h4) hR) (fun a8 z6 h => ?_)
    obtain ⟨rfl, r7⟩ := h
    refine rf_eq rfl (e_n 0) (inZ.r r7) (show inR 0 by decide) ?_ ?_
    · exact rf_ok (by exact ⟨rfl, rv4⟩)
    · refine rf_ck (fun h10 => ?_)
      exact rf_ok (by exact ⟨(e_add rfl (e_n 1)), h10⟩)
  · exact rf_ok (by exact ⟨rfl, rv4⟩)
noncomputable def NL_Y_readValue_13 (v1 : Int) (v2 : Int) (v3 : Int) (v4 : Int) (m : YS) : Option (Int) :=
  it (fun s : Int => nb_Y_readValue_13 v1 v2 v3 s m) (v4)
theorem fL_Y_readValue_13 {w y : Prop} {g : g_S} {n : NS} {m : YS} (hy : y) {xv1 : Int32} {v1 : Int} (ev1 : xv1 = Int32.ofInt v1) (rv1 : inR v1) {xv2 : Int32} {v2 : Int} (ev2 : xv2 = Int32.ofInt v2) (rv2 : inR v2) {xv3 : Int32} {v3 : Int} (ev3 : xv3 = Int32.ofInt v3) (rv3 : inR v3) {xv4 : Int32} {v4 : Int} (ev4 : xv4 = Int32.ofInt v4) (rv4 : inR v4) (hR : RC w y g n m) : Rf (fun a b => RI a b) (L_Y_readValue_13 1838 xv1 xv2 xv3 xv4 g) (NL_Y_readValue_13 v1 v2 v3 v4 m) := by
  subst ev1
  subst ev2
  subst ev3
  subst ev4
  unfold L_Y_readValue_13 NL_Y_readValue_13
  refine rf_it (I := (fun a b => RI a b)) (fun s t h => ?_) ⟨rfl, rv4⟩
  exact fb_Y_readValue_13 hy rfl rv1 rfl rv2 rfl rv3 h.1 h.2 hR
theorem NL_Y_readValue_13_eq (v1 : Int) (v2 : Int) (v3 : Int) (v4 : Int) (m : YS) : NL_Y_readValue_13 v1 v2 v3 v4 m = itc (nb_Y_readValue_13 v1 v2 v3 v4 m) (fun s => NL_Y_readValue_13 v1 v2 v3 s m) := it_eq2 (fun s : Int => nb_Y_readValue_13 v1 v2 v3 s m) (v4)
noncomputable def nb_Y_readValue_47 (v1 : Int) (v2 : Int) (v4 : Int) (v5 : Int) (m : YS) : Option ((Int) ⊕ ((Int) ⊕ (Unit))) :=
  (N_Y_wordOf v1 v5 m).bind fun z2 =>
  if z2 = 0 then
    some (.inr (.inr ()))
  else
    (N_Y_wordOf v1 v5 m).bind fun z7 =>
    (N_Y_lengthOf z7 m).bind fun z11 =>
    ck (v4 - v2) <|
    if z11 = (v4 - v2) then
      (N_Y_wordOf v1 v5 m).bind fun z18 =>
      (N_Y_isWord 101 v2 v4 z18 m).bind fun z22 =>
      if z22 = 0 then
        ck (v5 + 1) <|
        some (.inl (v5 + 1))
      else
        some (.inr (.inl v5))
    else
      ck (v5 + 1) <|
      some (.inl (v5 + 1))
theorem fb_Y_readValue_47 {w y : Prop} {g : g_S} {n : NS} {m : YS} (hy : y) {xv1 : Int32} {v1 : Int} (ev1 : xv1 = Int32.ofInt v1) (rv1 : inR v1) {xv2 : Int32} {v2 : Int} (ev2 : xv2 = Int32.ofInt v2) (rv2 : inR v2) {xv4 : Int32} {v4 : Int} (ev4 : xv4 = Int32.ofInt v4) (rv4 : inR v4) {xv5 : Int32} {v5 : Int} (ev5 : xv5 = Int32.ofInt v5) (rv5 : inR v5) (hR : RC w y g n m) : Rf (RS (fun a b => RI a b) (RS (fun a b => RI a b) (fun _ _ => True))) (b_Y_readValue_47 1838 xv1 xv2 xv4 xv5 g) (nb_Y_readValue_47 v1 v2 v4 v5 m) := by
  subst ev1
  subst ev2
  subst ev4
  subst ev5
  unfold b_Y_readValue_47 nb_Y_readValue_47
  refine rf_bind (f_Y_wordOf hy rfl rv1 rfl rv5 hR) (fun a4 z2 h => ?_)
  obtain ⟨rfl, r3⟩ := h
  refine rf_leq rfl (f_n 0) r3 (show inL 0 by decide) ?_ ?_
  · exact rf_ok (by exact trivial)
  · refine rf_bind (f_Y_wordOf hy rfl rv1 rfl rv5 hR) (fun a9 z7 h => ?_)
    obtain ⟨rfl, r8⟩ := h
    refine rf_bind (f_Y_lengthOf hy rfl r8 hR) (fun a13 z11 h => ?_)
    obtain ⟨rfl, r12⟩ := h
    refine rf_ck (fun h14 => ?_)
    refine rf_eq rfl (e_sub rfl rfl) r12 h14 ?_ ?_
    · refine y_Q hR hy ya101.1 (by decide) ?_
      refine rf_bind (f_Y_wordOf hy rfl rv1 rfl rv5 hR) (fun a20 z18 h => ?_)
      obtain ⟨rfl, r19⟩ := h
      refine rf_bind (f_Y_isWord hy rfl ya101 rfl rv2 rfl rv4 rfl r19 hR) (fun a24 z22 h => ?_)
      obtain ⟨rfl, r23⟩ := h
      refine rf_eq rfl (e_n 0) (inZ.r r23) (show inR 0 by decide) ?_ ?_
      · refine rf_ck (fun h26 => ?_)
        exact rf_ok (by exact ⟨(e_add rfl (e_n 1)), h26⟩)
      · exact rf_ok (by exact ⟨rfl, rv5⟩)
    · refine rf_ck (fun h27 => ?_)
      exact rf_ok (by exact ⟨(e_add rfl (e_n 1)), h27⟩)
noncomputable def NL_Y_readValue_47 (v1 : Int) (v2 : Int) (v4 : Int) (v5 : Int) (m : YS) : Option ((Int) ⊕ (Unit)) :=
  it (fun s : Int => nb_Y_readValue_47 v1 v2 v4 s m) (v5)
theorem fL_Y_readValue_47 {w y : Prop} {g : g_S} {n : NS} {m : YS} (hy : y) {xv1 : Int32} {v1 : Int} (ev1 : xv1 = Int32.ofInt v1) (rv1 : inR v1) {xv2 : Int32} {v2 : Int} (ev2 : xv2 = Int32.ofInt v2) (rv2 : inR v2) {xv4 : Int32} {v4 : Int} (ev4 : xv4 = Int32.ofInt v4) (rv4 : inR v4) {xv5 : Int32} {v5 : Int} (ev5 : xv5 = Int32.ofInt v5) (rv5 : inR v5) (hR : RC w y g n m) : Rf (RS (fun a b => RI a b) (fun _ _ => True)) (L_Y_readValue_47 1838 xv1 xv2 xv4 xv5 g) (NL_Y_readValue_47 v1 v2 v4 v5 m) := by
  subst ev1
  subst ev2
  subst ev4
  subst ev5
  unfold L_Y_readValue_47 NL_Y_readValue_47
  refine rf_it (I := (fun a b => RI a b)) (fun s t h => ?_) ⟨rfl, rv5⟩
  exact fb_Y_readValue_47 hy rfl rv1 rfl rv2 rfl rv4 h.1 h.2 hR
theorem NL_Y_readValue_47_eq (v1 : Int) (v2 : Int) (v4 : Int) (v5 : Int) (m : YS) : NL_Y_readValue_47 v1 v2 v4 v5 m = itc (nb_Y_readValue_47 v1 v2 v4 v5 m) (fun s => NL_Y_readValue_47 v1 v2 v4 s m) := it_eq2 (fun s : Int => nb_Y_readValue_47 v1 v2 v4 s m) (v5)
noncomputable def nb_Y_readValue_107 (v1 : Int) (v2 : Int) (v3 : Int) (v4 : Int) (v5 : Int) (m : YS) : Option ((Int × Int) ⊕ (Int × Int)) :=
  if v4 < v3 then
    ix v4 400 <|
    (N_Y_isDigit (m 101 v4) m).bind fun z6 =>
    if z6 = 0 then
      some (.inr (v4, v5))
    else
      ck (v4 - v2) <|
      if (v4 - v2) < 4 then
        ck (10 * v5) <|
        ix v4 400 <|
        ck ((10 * v5) + (m 101 v4)) <|
        ck (((10 * v5) + (m 101 v4)) - 48) <|
        ck (v4 + 1) <|
        some (.inl (v4 + 1, ((10 * v5) + (m 101 v4)) - 48))
      else
        some (.inr (v4, v5))
  else
    some (.inr (v4, v5))
theorem fb_Y_readValue_107 {w y : Prop} {g : g_S} {n : NS} {m : YS} (hy : y) {xv1 : Int32} {v1 : Int} (ev1 : xv1 = Int32.ofInt v1) (rv1 : inR v1) {xv2 : Int32} {v2 : Int} (ev2 : xv2 = Int32.ofInt v2) (rv2 : inR v2) {xv3 : Int32} {v3 : Int} (ev3 : xv3 = Int32.ofInt v3) (rv3 : inR v3) {xv4 : Int32} {v4 : Int} (ev4 : xv4 = Int32.ofInt v4) (rv4 : inR v4) {xv5 : Int32} {v5 : Int} (ev5 : xv5 = Int32.ofInt v5) (rv5 : inR v5) (hR : RC w y g n m) : Rf (RS (fun a b => RI a.1 b.1 ∧ RI a.2 b.2) (fun a b => RI a.1 b.1 ∧ RI a.2 b.2)) (b_Y_readValue_107 1838 xv1 xv2 xv3 xv4 xv5 g) (nb_Y_readValue_107 v1 v2 v3 v4 v5 m) := by
  subst ev1
  subst ev2
  subst ev3
  subst ev4
  subst ev5
  unfold b_Y_readValue_107 nb_Y_readValue_107
  refine rf_lt rfl rfl rv4 rv3 ?_ ?_
  · refine y_Q hR hy ya101.1 (by decide) ?_
    refine y_aB hR hy ya101 yl101 rfl rv4 (fun h3 h4 => ?_)
    refine rf_bind (f_Y_isDigit hy rfl (inB.r h4) hR) (fun a8 z6 h => ?_)
    obtain ⟨rfl, r7⟩ := h
    refine rf_eq rfl (e_n 0) (inZ.r r7) (show inR 0 by decide) ?_ ?_
    · exact rf_ok (by exact ⟨⟨rfl, rv4⟩, ⟨rfl, rv5⟩⟩)
    · refine rf_ck (fun h10 => ?_)
      refine rf_lt (e_sub rfl rfl) (e_n 4) h10 (show inR 4 by decide) ?_ ?_
      · refine rf_ck (fun h12 => ?_)
        refine y_Q hR hy ya101.1 (by decide) ?_
        refine y_aB hR hy ya101 yl101 rfl rv4 (fun h14 h15 => ?_)
        refine rf_ck (fun h16 => ?_)
        refine rf_ck (fun h17 => ?_)
        refine rf_ck (fun h18 => ?_)
        exact rf_ok (by exact ⟨⟨(e_add rfl (e_n 1)), h18⟩, ⟨(e_sub (e_add (e_mul (e_n 10) rfl) rfl) (e_n 48)), h17⟩⟩)
      · exact rf_ok (by exact ⟨⟨rfl, rv4⟩, ⟨rfl, rv5⟩⟩)
  · exact rf_ok (by exact ⟨⟨rfl, rv4⟩, ⟨rfl, rv5⟩⟩)
noncomputable def NL_Y_readValue_107 (v1 : Int) (v2 : Int) (v3 : Int) (v4 : Int) (v5 : Int) (m : YS) : Option (Int × Int) :=
  it (fun s : Int × Int => nb_Y_readValue_107 v1 v2 v3 s.1 s.2 m) (v4, v5)
theorem fL_Y_readValue_107 {w y : Prop} {g : g_S} {n : NS} {m : YS} (hy : y) {xv1 : Int32} {v1 : Int} (ev1 : xv1 = Int32.ofInt v1) (rv1 : inR v1) {xv2 : Int32} {v2 : Int} (ev2 : xv2 = Int32.ofInt v2) (rv2 : inR v2) {xv3 : Int32} {v3 : Int} (ev3 : xv3 = Int32.ofInt v3) (rv3 : inR v3) {xv4 : Int32} {v4 : Int} (ev4 : xv4 = Int32.ofInt v4) (rv4 : inR v4) {xv5 : Int32} {v5 : Int} (ev5 : xv5 = Int32.ofInt v5) (rv5 : inR v5) (hR : RC w y g n m) : Rf (fun a b => RI a.1 b.1 ∧ RI a.2 b.2) (L_Y_readValue_107 1838 xv1 xv2 xv3 xv4 xv5 g) (NL_Y_readValue_107 v1 v2 v3 v4 v5 m) := by
  subst ev1
  subst ev2
  subst ev3
  subst ev4
  subst ev5
  unfold L_Y_readValue_107 NL_Y_readValue_107
  refine rf_it (I := (fun a b => RI a.1 b.1 ∧ RI a.2 b.2)) (fun s t h => ?_) ⟨⟨rfl, rv4⟩, ⟨rfl, rv5⟩⟩
  exact fb_Y_readValue_107 hy rfl rv1 rfl rv2 rfl rv3 h.1.1 h.1.2 h.2.1 h.2.2 hR
theorem NL_Y_readValue_107_eq (v1 : Int) (v2 : Int) (v3 : Int) (v4 : Int) (v5 : Int) (m : YS) : NL_Y_readValue_107 v1 v2 v3 v4 v5 m = itc (nb_Y_readValue_107 v1 v2 v3 v4 v5 m) (fun s => NL_Y_readValue_107 v1 v2 v3 s.1 s.2 m) := it_eq2 (fun s : Int × Int => nb_Y_readValue_107 v1 v2 v3 s.1 s.2 m) (v4, v5)
noncomputable def nk_Y_readValue_288 (v1 : Int) (v5 : Int) (w0 : Int) (m : YS) : Option (Int × YS) :=
  if w0 < v5 then
    some ((-1), m)
  else
    if v1 = 8 then
      if 0 < v5 then
        some (v5, m)
      else
        some ((-1), m)
    else
      some (v5, m)
theorem fk_Y_readValue_288 {w y : Prop} {g : g_S} {n : NS} {m : YS} (hy : y) {xv1 : Int32} {v1 : Int} (ev1 : xv1 = Int32.ofInt v1) (rv1 : inR v1) {xv5 : Int32} {v5 : Int} (ev5 : xv5 = Int32.ofInt v5) (rv5 : inR v5) {xw0 : Int32} {w0 : Int} (ew0 : xw0 = Int32.ofInt w0) (rw0 : inR w0) (hR : RC w y g n m) : Rf (fun a b => RI a.1 b.1 ∧ RC w y a.2 n b.2) (k_Y_readValue_288 xv1 xv5 xw0 g) (nk_Y_readValue_288 v1 v5 w0 m) := by
  subst ev1
  subst ev5
  subst ew0
  unfold k_Y_readValue_288 nk_Y_readValue_288
  refine rf_lt rfl rfl rw0 rv5 ?_ ?_
  · exact rf_ok (by exact ⟨⟨(e_m 1), (show inR (-1) by decide)⟩, hR⟩)
  · refine rf_eq rfl (e_n 8) rv1 (show inR 8 by decide) ?_ ?_
    · refine rf_lt (e_n 0) rfl (show inR 0 by decide) rv5 ?_ ?_
      · exact rf_ok (by exact ⟨⟨rfl, rv5⟩, hR⟩)
      · exact rf_ok (by exact ⟨⟨(e_m 1), (show inR (-1) by decide)⟩, hR⟩)
    · exact rf_ok (by exact ⟨⟨rfl, rv5⟩, hR⟩)
noncomputable def nk_Y_readValue_241 (v1 : Int) (v4 : Int) (v5 : Int) (m : YS) : Option (Int × YS) :=
  st (yw m 104 0 v4) fun m2 =>
  if v1 < 3 then
    nk_Y_readValue_288 v1 v5 63 m2
  else
    if v1 = 5 then
      nk_Y_readValue_288 v1 v5 3 m2
    else
      if v1 < 5 then
        nk_Y_readValue_288 v1 v5 20 m2
      else
        if v1 < 8 then
          nk_Y_readValue_288 v1 v5 96 m2
        else
          nk_Y_readValue_288 v1 v5 3 m2
theorem fk_Y_readValue_241 {w y : Prop} {g : g_S} {n : NS} {m : YS} (hy : y) {xv1 : Int32} {v1 : Int} (ev1 : xv1 = Int32.ofInt v1) (rv1 : inR v1) {xv4 : Int32} {v4 : Int} (ev4 : xv4 = Int32.ofInt v4) (rv4 : inR v4) {xv5 : Int32} {v5 : Int} (ev5 : xv5 = Int32.ofInt v5) (rv5 : inR v5) (hR : RC w y g n m) : Rf (fun a b => RI a.1 b.1 ∧ RC w y a.2 n b.2) (k_Y_readValue_241 1838 xv1 xv4 xv5 g) (nk_Y_readValue_241 v1 v4 v5 m) := by
  subst ev1
  subst ev4
  subst ev5
  unfold k_Y_readValue_241 nk_Y_readValue_241
  refine y_pI hR hy yk104 ⟨yt104, yz104⟩ rfl rv4 (fun g4 m2 hR3 => ?_)
  refine rf_lt rfl (e_n 3) rv1 (show inR 3 by decide) ?_ ?_
  · exact fk_Y_readValue_288 hy rfl rv1 rfl rv5 (e_n 63) (show inR 63 by decide) hR3
  · refine rf_eq rfl (e_n 5) rv1 (show inR 5 by decide) ?_ ?_
    · exact fk_Y_readValue_288 hy rfl rv1 rfl rv5 (e_n 3) (show inR 3 by decide) hR3
    · refine rf_lt rfl (e_n 5) rv1 (show inR 5 by decide) ?_ ?_
      · exact fk_Y_readValue_288 hy rfl rv1 rfl rv5 (e_n 20) (show inR 20 by decide) hR3
      · refine rf_lt rfl (e_n 8) rv1 (show inR 8 by decide) ?_ ?_
        · exact fk_Y_readValue_288 hy rfl rv1 rfl rv5 (e_n 96) (show inR 96 by decide) hR3
        · exact fk_Y_readValue_288 hy rfl rv1 rfl rv5 (e_n 3) (show inR 3 by decide) hR3
noncomputable def nk_Y_readValue_185 (v1 : Int) (v3 : Int) (v4 : Int) (v5 : Int) (m : YS) : Option (Int × YS) :=
  if v1 = 6 then
    if v4 < v3 then
      ix v4 400 <|
      if (m 101 v4) = 37 then
        ck (v4 + 1) <|
        st (yw m 104 0 (v4 + 1)) fun m9 =>
        if v5 < 1 then
          some ((-1), m9)
        else
          if 100 < v5 then
            some ((-1), m9)
          else
            ck (1000 + v5) <|
            some (1000 + v5, m9)
      else
        nk_Y_readValue_241 v1 v4 v5 m
    else
      nk_Y_readValue_241 v1 v4 v5 m
  else
    nk_Y_readValue_241 v1 v4 v5 m
theorem fk_Y_readValue_185 {w y : Prop} {g : g_S} {n : NS} {m : YS} (hy : y) {xv1 : Int32} {v1 : Int} (ev1 : xv1 = Int32.ofInt v1) (rv1 : inR v1) {xv3 : Int32} {v3 : Int} (ev3 : xv3 = Int32.ofInt v3) (rv3 : inR v3) {xv4 : Int32} {v4 : Int} (ev4 : xv4 = Int32.ofInt v4) (rv4 : inR v4) {xv5 : Int32} {v5 : Int} (ev5 : xv5 = Int32.ofInt v5) (rv5 : inR v5) (hR : RC w y g n m) : Rf (fun a b => RI a.1 b.1 ∧ RC w y a.2 n b.2) (k_Y_readValue_185 1838 xv1 xv3 xv4 xv5 g) (nk_Y_readValue_185 v1 v3 v4 v5 m) := by
  subst ev1
  subst ev3
  subst ev4
  subst ev5
  unfold k_Y_readValue_185 nk_Y_readValue_185
  refine rf_eq rfl (e_n 6) rv1 (show inR 6 by decide) ?_ ?_
  · refine rf_lt rfl rfl rv4 rv3 ?_ ?_
    · refine y_Q hR hy ya101.1 (by decide) ?_
      refine y_aB hR hy ya101 yl101 rfl rv4 (fun h4 h5 => ?_)
      refine rf_eq rfl (e_n 37) (inB.r h5) (show inR 37 by decide) ?_ ?_
      · refine rf_ck (fun h7 => ?_)
        refine y_pI hR hy yk104 ⟨yt104, yz104⟩ (e_add rfl (e_n 1)) h7 (fun g11 m9 hR10 => ?_)
        refine rf_lt rfl (e_n 1) rv5 (show inR 1 by decide) ?_ ?_
        · exact rf_ok (by exact ⟨⟨(e_m 1), (show inR (-1) by decide)⟩, hR10⟩)
        · refine rf_lt (e_n 100) rfl (show inR 100 by decide) rv5 ?_ ?_
          · exact rf_ok (by exact ⟨⟨(e_m 1), (show inR (-1) by decide)⟩, hR10⟩)
          · refine rf_ck (fun h16 => ?_)
            exact rf_ok (by exact ⟨⟨(e_add (e_n 1000) rfl), h16⟩, hR10⟩)
      · exact fk_Y_readValue_241 hy rfl rv1 rfl rv4 rfl rv5 hR
    · exact fk_Y_readValue_241 hy rfl rv1 rfl rv4 rfl rv5 hR
  · exact fk_Y_readValue_241 hy rfl rv1 rfl rv4 rfl rv5 hR
noncomputable def nk_Y_readValue_158 (v1 : Int) (v2 : Int) (v3 : Int) (v4 : Int) (v5 : Int) (m : YS) : Option (Int × YS) :=
  if v4 = v2 then
    some ((-1), m)
  else
    if v4 < v3 then
      ix v4 400 <|
      (N_Y_isDigit (m 101 v4) m).bind fun z8 =>
      if z8 = 0 then
        nk_Y_readValue_185 v1 v3 v4 v5 m
      else
        some ((-1), m)
    else
      nk_Y_readValue_185 v1 v3 v4 v5 m
theorem fk_Y_readValue_158 {w y : Prop} {g : g_S} {n : NS} {m : YS} (hy : y) {xv1 : Int32} {v1 : Int} (ev1 : xv1 = Int32.ofInt v1) (rv1 : inR v1) {xv2 : Int32} {v2 : Int} (ev2 : xv2 = Int32.ofInt v2) (rv2 : inR v2) {xv3 : Int32} {v3 : Int} (ev3 : xv3 = Int32.ofInt v3) (rv3 : inR v3) {xv4 : Int32} {v4 : Int} (ev4 : xv4 = Int32.ofInt v4) (rv4 : inR v4) {xv5 : Int32} {v5 : Int} (ev5 : xv5 = Int32.ofInt v5) (rv5 : inR v5) (hR : RC w y g n m) : Rf (fun a b => RI a.1 b.1 ∧ RC w y a.2 n b.2) (k_Y_readValue_158 1838 xv1 xv2 xv3 xv4 xv5 g) (nk_Y_readValue_158 v1 v2 v3 v4 v5 m) := by
  subst ev1
  subst ev2
  subst ev3
  subst ev4
  subst ev5
  unfold k_Y_readValue_158 nk_Y_readValue_158
  refine rf_eq rfl rfl rv4 rv2 ?_ ?_
  · exact rf_ok (by exact ⟨⟨(e_m 1), (show inR (-1) by decide)⟩, hR⟩)
  · refine rf_lt rfl rfl rv4 rv3 ?_ ?_
    · refine y_Q hR hy ya101.1 (by decide) ?_
      refine y_aB hR hy ya101 yl101 rfl rv4 (fun h5 h6 => ?_)
      refine rf_bind (f_Y_isDigit hy rfl (inB.r h6) hR) (fun a10 z8 h => ?_)
      obtain ⟨rfl, r9⟩ := h
      refine rf_eq rfl (e_n 0) (inZ.r r9) (show inR 0 by decide) ?_ ?_
      · exact fk_Y_readValue_185 hy rfl rv1 rfl rv3 rfl rv4 rfl rv5 hR
      · exact rf_ok (by exact ⟨⟨(e_m 1), (show inR (-1) by decide)⟩, hR⟩)
    · exact fk_Y_readValue_185 hy rfl rv1 rfl rv3 rfl rv4 rfl rv5 hR
noncomputable def nk_Y_readValue_38 (v1 : Int) (v2 : Int) (v4 : Int) (m : YS) : Option (Int × YS) :=
  st (yw m 104 0 v4) fun m2 =>
  (NL_Y_readValue_47 v1 v2 v4 0 m2).bind <|
    us (fun z5 =>
    some (z5, m2))
    (fun _ =>
    some ((-1), m2))
theorem fk_Y_readValue_38 {w y : Prop} {g : g_S} {n : NS} {m : YS} (hy : y) {xv1 : Int32} {v1 : Int} (ev1 : xv1 = Int32.ofInt v1) (rv1 : inR v1) {xv2 : Int32} {v2 : Int} (ev2 : xv2 = Int32.ofInt v2) (rv2 : inR v2) {xv4 : Int32} {v4 : Int} (ev4 : xv4 = Int32.ofInt v4) (rv4 : inR v4) (hR : RC w y g n m) : Rf (fun a b => RI a.1 b.1 ∧ RC w y a.2 n b.2) (k_Y_readValue_38 1838 xv1 xv2 xv4 g) (nk_Y_readValue_38 v1 v2 v4 m) := by
  subst ev1
  subst ev2
  subst ev4
  unfold k_Y_readValue_38 nk_Y_readValue_38
  refine y_pI hR hy yk104 ⟨yt104, yz104⟩ rfl rv4 (fun g4 m2 hR3 => ?_)
  refine rf_bind (fL_Y_readValue_47 hy rfl rv1 rfl rv2 rfl rv4 (e_n 0) (show inR 0 by decide) hR3) (fun a b h => rf_us h (fun a6 z5 h => ?_) (fun a b h => ?_))
  · obtain ⟨rfl, r7⟩ := (show RI a6 z5 from h)
    exact rf_ok (by exact ⟨⟨rfl, r7⟩, hR3⟩)
  · exact rf_ok (by exact ⟨⟨(e_m 1), (show inR (-1) by decide)⟩, hR3⟩)
noncomputable def N_Y_readValue (v1 : Int) (v2 : Int) (v3 : Int) (m : YS) : Option (Int × YS) :=
  if v1 = 0 then
    (NL_Y_readValue_13 v1 v2 v3 v2 m).bind <| fun z2 =>
    nk_Y_readValue_38 v1 v2 z2 m
  else
    if 8 < v1 then
      (NL_Y_readValue_13 v1 v2 v3 v2 m).bind <| fun z6 =>
      nk_Y_readValue_38 v1 v2 z6 m
    else
      (NL_Y_readValue_107 v1 v2 v3 v2 0 m).bind <| u2 fun z9 z10 =>
      nk_Y_readValue_158 v1 v2 v3 z9 z10 m
theorem f_Y_readValue {w y : Prop} {g : g_S} {n : NS} {m : YS} (hy : y) {xv1 : Int32} {v1 : Int} (ev1 : xv1 = Int32.ofInt v1) (rv1 : inR v1) {xv2 : Int32} {v2 : Int} (ev2 : xv2 = Int32.ofInt v2) (rv2 : inR v2) {xv3 : Int32} {v3 : Int} (ev3 : xv3 = Int32.ofInt v3) (rv3 : inR v3) (hR : RC w y g n m) : Rf (fun a b => RI a.1 b.1 ∧ RC w y a.2 n b.2) (M_Y_readValue 1838 xv1 xv2 xv3 g) (N_Y_readValue v1 v2 v3 m) := by
  subst ev1
  subst ev2
  subst ev3
  unfold M_Y_readValue N_Y_readValue
  refine rf_eq rfl (e_n 0) rv1 (show inR 0 by decide) ?_ ?_
  · refine rf_bind (fL_Y_readValue_13 hy rfl rv1 rfl rv2 rfl rv3 rfl rv2 hR) (fun a3 z2 h => ?_)
    obtain ⟨rfl, r4⟩ := (show RI a3 z2 from h)
    exact fk_Y_readValue_38 hy rfl rv1 rfl rv2 rfl r4 hR
  · refine rf_lt (e_n 8) rfl (show inR 8 by decide) rv1 ?_ ?_
    · refine rf_bind (fL_Y_readValue_13 hy rfl rv1 rfl rv2 rfl rv3 rfl rv2 hR) (fun a7 z6 h => ?_)
      obtain ⟨rfl, r8⟩ := (show RI a7 z6 from h)
      exact fk_Y_readValue_38 hy rfl rv1 rfl rv2 rfl r8 hR
    · refine rf_bind (fL_Y_readValue_107 hy rfl rv1 rfl rv2 rfl rv3 rfl rv2 (e_n 0) (show inR 0 by decide) hR) (fun a b h => ?_)
      obtain ⟨a11, a12⟩ := a
      obtain ⟨z9, z10⟩ := b
      refine rf_u2 ?_
      obtain ⟨rfl, r13⟩ := (show RI a11 z9 from h.1)
      obtain ⟨rfl, r14⟩ := (show RI a12 z10 from h.2)
      exact fk_Y_readValue_158 hy rfl rv1 rfl rv2 rfl rv3 rfl r13 rfl r14 hR
noncomputable def nb_Y_readDeclaration_2 (v1 : Int) (v2 : Int) (v3 : Int) (m : YS) : Option ((Int) ⊕ (Int)) :=
  if v3 < v2 then
    ix v3 400 <|
    (N_Y_isSmall (m 101 v3) m).bind fun z6 =>
    if z6 = 0 then
      some (.inr v3)
    else
      ck (v3 + 1) <|
      some (.inl (v3 + 1))
  else
    some (.inr v3)
theorem fb_Y_readDeclaration_2 {w y : Prop} {g : g_S} {n : NS} {m : YS} (hy : y) {xv1 : Int32} {v1 : Int} (ev1 : xv1 = Int32.ofInt v1) (rv1 : inR v1) {xv2 : Int32} {v2 : Int} (ev2 : xv2 = Int32.ofInt v2) (rv2 : inR v2) {xv3 : Int32} {v3 : Int} (ev3 : xv3 = Int32.ofInt v3) (rv3 : inR v3) (hR : RC w y g n m) : Rf (RS (fun a b => RI a b) (fun a b => RI a b)) (b_Y_readDeclaration_2 1838 xv1 xv2 xv3 g) (nb_Y_readDeclaration_2 v1 v2 v3 m) := by
  subst ev1
  subst ev2
  subst ev3
  unfold b_Y_readDeclaration_2 nb_Y_readDeclaration_2
  refine rf_lt rfl rfl rv3 rv2 ?_ ?_
  · refine y_Q hR hy ya101.1 (by decide) ?_
    refine y_aB hR hy ya101 yl101 rfl rv3 (fun h3 h4 => ?_)
    refine rf_bind (f_Y_isSmall hy rfl (inB.r h4) hR) (fun a8 z6 h => ?_)
    obtain ⟨rfl, r7⟩ := h
    refine rf_eq rfl (e_n 0) (inZ.r r7) (show inR 0 by decide) ?_ ?_
    · exact rf_ok (by exact ⟨rfl, rv3⟩)
    · refine rf_ck (fun h10 => ?_)
      exact rf_ok (by exact ⟨(e_add rfl (e_n 1)), h10⟩)
  · exact rf_ok (by exact ⟨rfl, rv3⟩)
noncomputable def NL_Y_readDeclaration_2 (v1 : Int) (v2 : Int) (v3 : Int) (m : YS) : Option (Int) :=
  it (fun s : Int => nb_Y_readDeclaration_2 v1 v2 s m) (v3)
theorem fL_Y_readDeclaration_2 {w y : Prop} {g : g_S} {n : NS} {m : YS} (hy : y) {xv1 : Int32} {v1 : Int} (ev1 : xv1 = Int32.ofInt v1) (rv1 : inR v1) {xv2 : Int32} {v2 : Int} (ev2 : xv2 = Int32.ofInt v2) (rv2 : inR v2) {xv3 : Int32} {v3 : Int} (ev3 : xv3 = Int32.ofInt v3) (rv3 : inR v3) (hR : RC w y g n m) : Rf (fun a b => RI a b) (L_Y_readDeclaration_2 1838 xv1 xv2 xv3 g) (NL_Y_readDeclaration_2 v1 v2 v3 m) := by
  subst ev1
  subst ev2
  subst ev3
  unfold L_Y_readDeclaration_2 NL_Y_readDeclaration_2
  refine rf_it (I := (fun a b => RI a b)) (fun s t h => ?_) ⟨rfl, rv3⟩
  exact fb_Y_readDeclaration_2 hy rfl rv1 rfl rv2 h.1 h.2 hR
theorem NL_Y_readDeclaration_2_eq (v1 : Int) (v2 : Int) (v3 : Int) (m : YS) : NL_Y_readDeclaration_2 v1 v2 v3 m = itc (nb_Y_readDeclaration_2 v1 v2 v3 m) (fun s => NL_Y_readDeclaration_2 v1 v2 s m) := it_eq2 (fun s : Int => nb_Y_readDeclaration_2 v1 v2 s m) (v3)
noncomputable def nb_Y_readDeclaration_31 (v1 : Int) (v2 : Int) (v3 : Int) (v4 : Int) (v5 : Int) (m : YS) : Option ((Int × Int) ⊕ (Int)) :=
  if v5 < 11 then
    (N_Y_property v5 m).bind fun z3 =>
    (N_Y_lengthOf z3 m).bind fun z7 =>
    ck (v3 - v1) <|
    if z7 = (v3 - v1) then
      (N_Y_property v5 m).bind fun z14 =>
      (N_Y_isWord 101 v1 v3 z14 m).bind fun z18 =>
      if z18 = 0 then
        ck (v5 + 1) <|
        some (.inl (v4, v5 + 1))
      else
        ck (v5 + 1) <|
        some (.inl (v5, v5 + 1))
    else
      ck (v5 + 1) <|
      some (.inl (v4, v5 + 1))
  else
    some (.inr v4)
theorem fb_Y_readDeclaration_31 {w y : Prop} {g : g_S} {n : NS} {m : YS} (hy : y) {xv1 : Int32} {v1 : Int} (ev1 : xv1 = Int32.ofInt v1) (rv1 : inR v1) {xv2 : Int32} {v2 : Int} (ev2 : xv2 = Int32.ofInt v2) (rv2 : inR v2) {xv3 : Int32} {v3 : Int} (ev3 : xv3 = Int32.ofInt v3) (rv3 : inR v3) {xv4 : Int32} {v4 : Int} (ev4 : xv4 = Int32.ofInt v4) (rv4 : inR v4) {xv5 : Int32} {v5 : Int} (ev5 : xv5 = Int32.ofInt v5) (rv5 : inR v5) (hR : RC w y g n m) : Rf (RS (fun a b => RI a.1 b.1 ∧ RI a.2 b.2) (fun a b => RI a b)) (b_Y_readDeclaration_31 1838 xv1 xv2 xv3 xv4 xv5 g) (nb_Y_readDeclaration_31 v1 v2 v3 v4 v5 m) := by
  subst ev1
  subst ev2
  subst ev3
  subst ev4
  subst ev5
  unfold b_Y_readDeclaration_31 nb_Y_readDeclaration_31
  refine rf_lt rfl (e_n 11) rv5 (show inR 11 by decide) ?_ ?_
  · refine rf_bind (f_Y_property hy rfl rv5 hR) (fun a5 z3 h => ?_)
    obtain ⟨rfl, r4⟩ := h
    refine rf_bind (f_Y_lengthOf hy rfl r4 hR) (fun a9 z7 h => ?_)
    obtain ⟨rfl, r8⟩ := h
    refine rf_ck (fun h10 => ?_)
    refine rf_eq rfl (e_sub rfl rfl) r8 h10 ?_ ?_
    · refine y_Q hR hy ya101.1 (by decide) ?_
      refine rf_bind (f_Y_property hy rfl rv5 hR) (fun a16 z14 h => ?_)
      obtain ⟨rfl, r15⟩ := h
      refine rf_bind (f_Y_isWord hy rfl ya101 rfl rv1 rfl rv3 rfl r15 hR) (fun a20 z18 h => ?_)
      obtain ⟨rfl, r19⟩ := h
      refine rf_eq rfl (e_n 0) (inZ.r r19) (show inR 0 by decide) ?_ ?_
      · refine rf_ck (fun h22 => ?_)
        exact rf_ok (by exact ⟨⟨rfl, rv4⟩, ⟨(e_add rfl (e_n 1)), h22⟩⟩)
      · refine rf_ck (fun h23 => ?_)
        exact rf_ok (by exact ⟨⟨rfl, rv5⟩, ⟨(e_add rfl (e_n 1)), h23⟩⟩)
    · refine rf_ck (fun h24 => ?_)
      exact rf_ok (by exact ⟨⟨rfl, rv4⟩, ⟨(e_add rfl (e_n 1)), h24⟩⟩)
  · exact rf_ok (by exact ⟨rfl, rv4⟩)
noncomputable def NL_Y_readDeclaration_31 (v1 : Int) (v2 : Int) (v3 : Int) (v4 : Int) (v5 : Int) (m : YS) : Option (Int) :=
  it (fun s : Int × Int => nb_Y_readDeclaration_31 v1 v2 v3 s.1 s.2 m) (v4, v5)
theorem fL_Y_readDeclaration_31 {w y : Prop} {g : g_S} {n : NS} {m : YS} (hy : y) {xv1 : Int32} {v1 : Int} (ev1 : xv1 = Int32.ofInt v1) (rv1 : inR v1) {xv2 : Int32} {v2 : Int} (ev2 : xv2 = Int32.ofInt v2) (rv2 : inR v2) {xv3 : Int32} {v3 : Int} (ev3 : xv3 = Int32.ofInt v3) (rv3 : inR v3) {xv4 : Int32} {v4 : Int} (ev4 : xv4 = Int32.ofInt v4) (rv4 : inR v4) {xv5 : Int32} {v5 : Int} (ev5 : xv5 = Int32.ofInt v5) (rv5 : inR v5) (hR : RC w y g n m) : Rf (fun a b => RI a b) (L_Y_readDeclaration_31 1838 xv1 xv2 xv3 xv4 xv5 g) (NL_Y_readDeclaration_31 v1 v2 v3 v4 v5 m) := by
  subst ev1
  subst ev2
  subst ev3
  subst ev4
  subst ev5
  unfold L_Y_readDeclaration_31 NL_Y_readDeclaration_31
  refine rf_it (I := (fun a b => RI a.1 b.1 ∧ RI a.2 b.2)) (fun s t h => ?_) ⟨⟨rfl, rv4⟩, ⟨rfl, rv5⟩⟩
  exact fb_Y_readDeclaration_31 hy rfl rv1 rfl rv2 rfl rv3 h.1.1 h.1.2 h.2.1 h.2.2 hR
theorem NL_Y_readDeclaration_31_eq (v1 : Int) (v2 : Int) (v3 : Int) (v4 : Int) (v5 : Int) (m : YS) : NL_Y_readDeclaration_31 v1 v2 v3 v4 v5 m = itc (nb_Y_readDeclaration_31 v1 v2 v3 v4 v5 m) (fun s => NL_Y_readDeclaration_31 v1 v2 v3 s.1 s.2 m) := it_eq2 (fun s : Int × Int => nb_Y_readDeclaration_31 v1 v2 v3 s.1 s.2 m) (v4, v5)
noncomputable def nk_Y_readDeclaration_174 (v2 : Int) (v3 : Int) (v4 : Int) (v5 : Int) (v6 : Int) (m : YS) : Option (YS) :=
  if v3 < v2 then
    some m
  else
    ix v4 11 <|
    if v6 < (m 103 v4) then
      some m
    else
      ix v4 11 <|
      st (yw m 103 v4 v6) fun m10 =>
      ix v4 11 <|
      st (yw m10 102 v4 v5) fun m15 =>
      some m15
theorem fk_Y_readDeclaration_174 {w y : Prop} {g : g_S} {n : NS} {m : YS} (hy : y) {xv2 : Int32} {v2 : Int} (ev2 : xv2 = Int32.ofInt v2) (rv2 : inR v2) {xv3 : Int32} {v3 : Int} (ev3 : xv3 = Int32.ofInt v3) (rv3 : inR v3) {xv4 : Int32} {v4 : Int} (ev4 : xv4 = Int32.ofInt v4) (rv4 : inR v4) {xv5 : Int32} {v5 : Int} (ev5 : xv5 = Int32.ofInt v5) (rv5 : inR v5) {xv6 : Int32} {v6 : Int} (ev6 : xv6 = Int32.ofInt v6) (rv6 : inR v6) (hR : RC w y g n m) : Rf (fun a b => RC w y a n b) (k_Y_readDeclaration_174 1838 xv2 xv3 xv4 xv5 xv6 g) (nk_Y_readDeclaration_174 v2 v3 v4 v5 v6 m) := by
  subst ev2
  subst ev3
  subst ev4
  subst ev5
  subst ev6
  unfold k_Y_readDeclaration_174 nk_Y_readDeclaration_174
  refine rf_lt rfl rfl rv3 rv2 ?_ ?_
  · exact rf_ok (by exact hR)
  · refine y_Q hR hy ya103.1 (by decide) ?_
    refine y_aI hR hy ya103 yl103 rfl rv4 (fun h4 h5 => ?_)
    refine rf_lt rfl rfl rv6 h5 ?_ ?_
    · exact rf_ok (by exact hR)
    · refine y_Q hR hy ya103.1 (by decide) ?_
      refine y_sI hR hy ya103 yl103 rfl rv4 rfl rv6 (fun g12 m10 hR11 => ?_)
      refine y_Q hR11 hy ya102.1 (by decide) ?_
      refine y_sI hR11 hy ya102 yl102 rfl rv4 rfl rv5 (fun g17 m15 hR16 => ?_)
      exact rf_ok (by exact hR16)
noncomputable def nk_Y_readDeclaration_25 (v1 : Int) (v2 : Int) (v3 : Int) (m : YS) : Option (YS) :=
  (NL_Y_readDeclaration_31 v1 v2 v3 (-1) 0 m).bind <| fun z1 =>
  (N_Y_blanks v3 v2 m).bind fun z5 =>
  if z1 = (-1) then
    some m
  else
    if z5 < v2 then
      ix z5 400 <|
      if (m 101 z5) = 58 then
        ck (z5 + 1) <|
        (N_Y_blanks (z5 + 1) v2 m).bind fun z17 =>
        (N_Y_readValue z1 z17 v2 m).bind <| u2 fun z21 m24 =>
        if z21 = (-1) then
          some m24
        else
          (N_Y_blanks (m24 104 0) v2 m24).bind fun z31 =>
          if z31 < v2 then
            ix z31 400 <|
            if (m24 101 z31) = 33 then
              ck (z31 + 1) <|
              (N_Y_blanks (z31 + 1) v2 m24).bind fun z41 =>
              nk_Y_readDeclaration_174 v2 z41 z1 z21 2 m24
            else
              nk_Y_readDeclaration_174 v2 z31 z1 z21 1 m24
          else
            nk_Y_readDeclaration_174 v2 z31 z1 z21 1 m24
      else
        some m
    else
      some m
theorem fk_Y_readDeclaration_25 {w y : Prop} {g : g_S} {n : NS} {m : YS} (hy : y) {xv1 : Int32} {v1 : Int} (ev1 : xv1 = Int32.ofInt v1) (rv1 : inR v1) {xv2 : Int32} {v2 : Int} (ev2 : xv2 = Int32.ofInt v2) (rv2 : inR v2) {xv3 : Int32} {v3 : Int} (ev3 : xv3 = Int32.ofInt v3) (rv3 : inR v3) (hR : RC w y g n m) : Rf (fun a b => RC w y a n b) (k_Y_readDeclaration_25 1838 xv1 xv2 xv3 g) (nk_Y_readDeclaration_25 v1 v2 v3 m) := by
  subst ev1
  subst ev2
  subst ev3
  unfold k_Y_readDeclaration_25 nk_Y_readDeclaration_25
  refine rf_bind (fL_Y_readDeclaration_31 hy rfl rv1 rfl rv2 rfl rv3 (e_m 1) (show inR (-1) by decide) (e_n 0) (show inR 0 by decide) hR) (fun a2 z1 h => ?_)
  obtain ⟨rfl, r3⟩ := (show RI a2 z1 from h)
  refine v_c (y_gt hR hy) ?_
  refine rf_bind (f_Y_blanks hy rfl rv3 rfl rv2 hR) (fun a7 z5 h => ?_)
  obtain ⟨rfl, r6⟩ := h
  refine rf_eq rfl (e_m 1) r3 (show inR (-1) by decide) ?_ ?_
  · exact rf_ok (by exact hR)
  · refine rf_lt rfl rfl r6 rv2 ?_ ?_
    · refine y_Q hR hy ya101.1 (by decide) ?_
      refine y_aB hR hy ya101 yl101 rfl r6 (fun h12 h13 => ?_)
      refine rf_eq rfl (e_n 58) (inB.r h13) (show inR 58 by decide) ?_ ?_
      · refine rf_ck (fun h15 => ?_)
        refine v_c (y_gt hR hy) ?_
        refine rf_bind (f_Y_blanks hy (e_add rfl (e_n 1)) h15 rfl rv2 hR) (fun a19 z17 h => ?_)
        obtain ⟨rfl, r18⟩ := h
        refine v_c2 (y_gt hR hy) ?_
        refine rf_c2 (f_Y_readValue hy rfl r3 rfl r18 rfl rv2 hR) (fun a23 g26 b h => ?_)
        obtain ⟨z21, m24⟩ := b
        refine rf_v2 ?_
        obtain ⟨rfl, r22⟩ := (show RI a23 z21 from h.1)
        have hR25 : RC w y g26 n m24 := h.2
        refine rf_eq rfl (e_m 1) r22 (show inR (-1) by decide) ?_ ?_
        · exact rf_ok (by exact hR25)
        · refine y_I hR25 hy yk104 yt104 (fun h29 => ?_)
          refine v_c (y_gt hR25 hy) ?_
          refine rf_bind (f_Y_blanks hy rfl h29 rfl rv2 hR25) (fun a33 z31 h => ?_)
          obtain ⟨rfl, r32⟩ := h
          refine rf_lt rfl rfl r32 rv2 ?_ ?_
          · refine y_Q hR25 hy ya101.1 (by decide) ?_
            refine y_aB hR25 hy ya101 yl101 rfl r32 (fun h36 h37 => ?_)
            refine rf_eq rfl (e_n 33) (inB.r h37) (show inR 33 by decide) ?_ ?_
            · refine rf_ck (fun h39 => ?_)
              refine v_c (y_gt hR25 hy) ?_
              refine rf_bind (f_Y_blanks hy (e_add rfl (e_n 1)) h39 rfl rv2 hR25) (fun a43 z41 h => ?_)
              obtain ⟨rfl, r42⟩ := h
              exact fk_Y_readDeclaration_174 hy rfl rv2 rfl r42 rfl r3 rfl r22 (e_n 2) (show inR 2 by decide) hR25
            · exact fk_Y_readDeclaration_174 hy rfl rv2 rfl r32 rfl r3 rfl r22 (e_n 1) (show inR 1 by decide) hR25
          · exact fk_Y_readDeclaration_174 hy rfl rv2 rfl r32 rfl r3 rfl r22 (e_n 1) (show inR 1 by decide) hR25
      · exact rf_ok (by exact hR)
    · exact rf_ok (by exact hR)
noncomputable def N_Y_readDeclaration (v1 : Int) (v2 : Int) (m : YS) : Option (YS) :=
  (NL_Y_readDeclaration_2 v1 v2 v1 m).bind <| fun z1 =>
  nk_Y_readDeclaration_25 v1 v2 z1 m
theorem f_Y_readDeclaration {w y : Prop} {g : g_S} {n : NS} {m : YS} (hy : y) {xv1 : Int32} {v1 : Int} (ev1 : xv1 = Int32.ofInt v1) (rv1 : inR v1) {xv2 : Int32} {v2 : Int} (ev2 : xv2 = Int32.ofInt v2) (rv2 : inR v2) (hR : RC w y g n m) : Rf (fun a b => RC w y a n b) (M_Y_readDeclaration 1838 xv1 xv2 g) (N_Y_readDeclaration v1 v2 m) := by
  subst ev1
  subst ev2
  unfold M_Y_readDeclaration N_Y_readDeclaration
  refine rf_bind (fL_Y_readDeclaration_2 hy rfl rv1 rfl rv2 rfl rv1 hR) (fun a2 z1 h => ?_)
  obtain ⟨rfl, r3⟩ := (show RI a2 z1 from h)
  exact fk_Y_readDeclaration_25 hy rfl rv1 rfl rv2 rfl r3 hR
noncomputable def nb_Y_readDeclarations_2 (v1 : Int) (v2 : Int) (v3 : Int) (m : YS) : Option ((Int × YS) ⊕ (YS)) :=
  if v3 < 11 then
    ix v3 11 <|
    st (yw m 103 v3 0) fun m4 =>
    ck (v3 + 1) <|
    some (.inl (v3 + 1, m4))
  else
    some (.inr m)
theorem fb_Y_readDeclarations_2 {w y : Prop} {g : g_S} {n : NS} {m : YS} (hy : y) {xv1 : Int32} {v1 : Int} (ev1 : xv1 = Int32.ofInt v1) (rv1 : inR v1) {xv2 : Int32} {v2 : Int} (ev2 : xv2 = Int32.ofInt v2) (rv2 : inR v2) {xv3 : Int32} {v3 : Int} (ev3 : xv3 = Int32.ofInt v3) (rv3 : inR v3) (hR : RC w y g n m) : Rf (RS (fun a b => RI a.1 b.1 ∧ RC w y a.2 n b.2) (fun a b => RC w y a n b)) (b_Y_readDeclarations_2 1838 xv1 xv2 xv3 g) (nb_Y_readDeclarations_2 v1 v2 v3 m) := by
  subst ev1
  subst ev2
  subst ev3
  unfold b_Y_readDeclarations_2 nb_Y_readDeclarations_2
  refine rf_lt rfl (e_n 11) rv3 (show inR 11 by decide) ?_ ?_
  · refine y_Q hR hy ya103.1 (by decide) ?_
    refine y_sI hR hy ya103 yl103 rfl rv3 (e_n 0) (show inR 0 by decide) (fun g6 m4 hR5 => ?_)
    refine rf_ck (fun h7 => ?_)
    exact rf_ok (by exact ⟨⟨(e_add rfl (e_n 1)), h7⟩, hR5⟩)
  · exact rf_ok (by exact hR)
noncomputable def NL_Y_readDeclarations_2 (v1 : Int) (v2 : Int) (v3 : Int) (m : YS) : Option (YS) :=
  it (fun s : Int × YS => nb_Y_readDeclarations_2 v1 v2 s.1 s.2) (v3, m)
theorem fL_Y_readDeclarations_2 {w y : Prop} {g : g_S} {n : NS} {m : YS} (hy : y) {xv1 : Int32} {v1 : Int} (ev1 : xv1 = Int32.ofInt v1) (rv1 : inR v1) {xv2 : Int32} {v2 : Int} (ev2 : xv2 = Int32.ofInt v2) (rv2 : inR v2) {xv3 : Int32} {v3 : Int} (ev3 : xv3 = Int32.ofInt v3) (rv3 : inR v3) (hR : RC w y g n m) : Rf (fun a b => RC w y a n b) (L_Y_readDeclarations_2 1838 xv1 xv2 xv3 g) (NL_Y_readDeclarations_2 v1 v2 v3 m) := by
  subst ev1
  subst ev2
  subst ev3
  unfold L_Y_readDeclarations_2 NL_Y_readDeclarations_2
  refine rf_it (I := (fun a b => RI a.1 b.1 ∧ RC w y a.2 n b.2)) (fun s t h => ?_) ⟨⟨rfl, rv3⟩, hR⟩
  exact fb_Y_readDeclarations_2 hy rfl rv1 rfl rv2 h.1.1 h.1.2 h.2
theorem NL_Y_readDeclarations_2_eq (v1 : Int) (v2 : Int) (v3 : Int) (m : YS) : NL_Y_readDeclarations_2 v1 v2 v3 m = itc (nb_Y_readDeclarations_2 v1 v2 v3 m) (fun s => NL_Y_readDeclarations_2 v1 v2 s.1 s.2) := it_eq2 (fun s : Int × YS => nb_Y_readDeclarations_2 v1 v2 s.1 s.2) (v3, m)
noncomputable def nb_Y_readDeclarations_31 (v2 : Int) (v3 : Int) (v4 : Int) (m : YS) : Option ((Int) ⊕ (Int)) :=
  if v4 < v2 then
    ix v4 400 <|
    if (m 101 v4) = 59 then
      some (.inr v4)
    else
      ck (v4 + 1) <|
      some (.inl (v4 + 1))
  else
    some (.inr v4)
theorem fb_Y_readDeclarations_31 {w y : Prop} {g : g_S} {n : NS} {m : YS} (hy : y) {xv2 : Int32} {v2 : Int} (ev2 : xv2 = Int32.ofInt v2) (rv2 : inR v2) {xv3 : Int32} {v3 : Int} (ev3 : xv3 = Int32.ofInt v3) (rv3 : inR v3) {xv4 : Int32} {v4 : Int} (ev4 : xv4 = Int32.ofInt v4) (rv4 : inR v4) (hR : RC w y g n m) : Rf (RS (fun a b => RI a b) (fun a b => RI a b)) (b_Y_readDeclarations_31 1838 xv2 xv3 xv4 g) (nb_Y_readDeclarations_31 v2 v3 v4 m) := by
  subst ev2
  subst ev3
  subst ev4
  unfold b_Y_readDeclarations_31 nb_Y_readDeclarations_31
  refine rf_lt rfl rfl rv4 rv2 ?_ ?_
  · refine y_Q hR hy ya101.1 (by decide) ?_
    refine y_aB hR hy ya101 yl101 rfl rv4 (fun h3 h4 => ?_)
    refine rf_eq rfl (e_n 59) (inB.r h4) (show inR 59 by decide) ?_ ?_
    · exact rf_ok (by exact ⟨rfl, rv4⟩)
    · refine rf_ck (fun h6 => ?_)
      exact rf_ok (by exact ⟨(e_add rfl (e_n 1)), h6⟩)
  · exact rf_ok (by exact ⟨rfl, rv4⟩)
noncomputable def NL_Y_readDeclarations_31 (v2 : Int) (v3 : Int) (v4 : Int) (m : YS) : Option (Int) :=
  it (fun s : Int => nb_Y_readDeclarations_31 v2 v3 s m) (v4)
theorem fL_Y_readDeclarations_31 {w y : Prop} {g : g_S} {n : NS} {m : YS} (hy : y) {xv2 : Int32} {v2 : Int} (ev2 : xv2 = Int32.ofInt v2) (rv2 : inR v2) {xv3 : Int32} {v3 : Int} (ev3 : xv3 = Int32.ofInt v3) (rv3 : inR v3) {xv4 : Int32} {v4 : Int} (ev4 : xv4 = Int32.ofInt v4) (rv4 : inR v4) (hR : RC w y g n m) : Rf (fun a b => RI a b) (L_Y_readDeclarations_31 1838 xv2 xv3 xv4 g) (NL_Y_readDeclarations_31 v2 v3 v4 m) := by
  subst ev2
  subst ev3
  subst ev4
  unfold L_Y_readDeclarations_31 NL_Y_readDeclarations_31
  refine rf_it (I := (fun a b => RI a b)) (fun s t h => ?_) ⟨rfl, rv4⟩
  exact fb_Y_readDeclarations_31 hy rfl rv2 rfl rv3 h.1 h.2 hR
theorem NL_Y_readDeclarations_31_eq (v2 : Int) (v3 : Int) (v4 : Int) (m : YS) : NL_Y_readDeclarations_31 v2 v3 v4 m = itc (nb_Y_readDeclarations_31 v2 v3 v4 m) (fun s => NL_Y_readDeclarations_31 v2 v3 s m) := it_eq2 (fun s : Int => nb_Y_readDeclarations_31 v2 v3 s m) (v4)
noncomputable def nk_Y_readDeclarations_55 (v2 : Int) (v3 : Int) (v4 : Int) (m : YS) : Option ((Int × YS) ⊕ (YS)) :=
  (N_Y_blanks v3 v4 m).bind fun z2 =>
  (N_Y_readDeclaration z2 v4 m).bind fun m6 =>
  ck (v4 + 1) <|
  some (.inl (v4 + 1, m6))
theorem fk_Y_readDeclarations_55 {w y : Prop} {g : g_S} {n : NS} {m : YS} (hy : y) {xv2 : Int32} {v2 : Int} (ev2 : xv2 = Int32.ofInt v2) (rv2 : inR v2) {xv3 : Int32} {v3 : Int} (ev3 : xv3 = Int32.ofInt v3) (rv3 : inR v3) {xv4 : Int32} {v4 : Int} (ev4 : xv4 = Int32.ofInt v4) (rv4 : inR v4) (hR : RC w y g n m) : Rf (RS (fun a b => RI a.1 b.1 ∧ RC w y a.2 n b.2) (fun a b => RC w y a n b)) (k_Y_readDeclarations_55 1838 xv2 xv3 xv4 g) (nk_Y_readDeclarations_55 v2 v3 v4 m) := by
  subst ev2
  subst ev3
  subst ev4
  unfold k_Y_readDeclarations_55 nk_Y_readDeclarations_55
  refine v_c (y_gt hR hy) ?_
  refine rf_bind (f_Y_blanks hy rfl rv3 rfl rv4 hR) (fun a4 z2 h => ?_)
  obtain ⟨rfl, r3⟩ := h
  refine v_c (y_gt hR hy) ?_
  refine rf_bind (f_Y_readDeclaration hy rfl r3 rfl rv4 hR) (fun g8 m6 hR7 => ?_)
  refine rf_ck (fun h9 => ?_)
  exact rf_ok (by exact ⟨⟨(e_add rfl (e_n 1)), h9⟩, hR7⟩)
noncomputable def nb_Y_readDeclarations_23 (v2 : Int) (v3 : Int) (m : YS) : Option ((Int × YS) ⊕ (YS)) :=
  if v3 < v2 then
    (NL_Y_readDeclarations_31 v2 v3 v3 m).bind <| fun z2 =>
    nk_Y_readDeclarations_55 v2 v3 z2 m
  else
    some (.inr m)
theorem fb_Y_readDeclarations_23 {w y : Prop} {g : g_S} {n : NS} {m : YS} (hy : y) {xv2 : Int32} {v2 : Int} (ev2 : xv2 = Int32.ofInt v2) (rv2 : inR v2) {xv3 : Int32} {v3 : Int} (ev3 : xv3 = Int32.ofInt v3) (rv3 : inR v3) (hR : RC w y g n m) : Rf (RS (fun a b => RI a.1 b.1 ∧ RC w y a.2 n b.2) (fun a b => RC w y a n b)) (b_Y_readDeclarations_23 1838 xv2 xv3 g) (nb_Y_readDeclarations_23 v2 v3 m) := by
  subst ev2
  subst ev3
  unfold b_Y_readDeclarations_23 nb_Y_readDeclarations_23
  refine rf_lt rfl rfl rv3 rv2 ?_ ?_
  · refine rf_bind (fL_Y_readDeclarations_31 hy rfl rv2 rfl rv3 rfl rv3 hR) (fun a3 z2 h => ?_)
    obtain ⟨rfl, r4⟩ := (show RI a3 z2 from h)
    exact fk_Y_readDeclarations_55 hy rfl rv2 rfl rv3 rfl r4 hR
  · exact rf_ok (by exact hR)
noncomputable def NL_Y_readDeclarations_23 (v2 : Int) (v3 : Int) (m : YS) : Option (YS) :=
  it (fun s : Int × YS => nb_Y_readDeclarations_23 v2 s.1 s.2) (v3, m)
theorem fL_Y_readDeclarations_23 {w y : Prop} {g : g_S} {n : NS} {m : YS} (hy : y) {xv2 : Int32} {v2 : Int} (ev2 : xv2 = Int32.ofInt v2) (rv2 : inR v2) {xv3 : Int32} {v3 : Int} (ev3 : xv3 = Int32.ofInt v3) (rv3 : inR v3) (hR : RC w y g n m) : Rf (fun a b => RC w y a n b) (L_Y_readDeclarations_23 1838 xv2 xv3 g) (NL_Y_readDeclarations_23 v2 v3 m) := by
  subst ev2
  subst ev3
  unfold L_Y_readDeclarations_23 NL_Y_readDeclarations_23
  refine rf_it (I := (fun a b => RI a.1 b.1 ∧ RC w y a.2 n b.2)) (fun s t h => ?_) ⟨⟨rfl, rv3⟩, hR⟩
  exact fb_Y_readDeclarations_23 hy rfl rv2 h.1.1 h.1.2 h.2
theorem NL_Y_readDeclarations_23_eq (v2 : Int) (v3 : Int) (m : YS) : NL_Y_readDeclarations_23 v2 v3 m = itc (nb_Y_readDeclarations_23 v2 v3 m) (fun s => NL_Y_readDeclarations_23 v2 s.1 s.2) := it_eq2 (fun s : Int × YS => nb_Y_readDeclarations_23 v2 s.1 s.2) (v3, m)
noncomputable def N_Y_readDeclarations (v1 : Int) (v2 : Int) (m : YS) : Option (YS) :=
  (NL_Y_readDeclarations_2 v1 v2 0 m).bind <| fun m1 =>
  (NL_Y_readDeclarations_23 v2 v1 m1).bind <| fun m4 =>
  some m4
theorem f_Y_readDeclarations {w y : Prop} {g : g_S} {n : NS} {m : YS} (hy : y) {xv1 : Int32} {v1 : Int} (ev1 : xv1 = Int32.ofInt v1) (rv1 : inR v1) {xv2 : Int32} {v2 : Int} (ev2 : xv2 = Int32.ofInt v2) (rv2 : inR v2) (hR : RC w y g n m) : Rf (fun a b => RC w y a n b) (M_Y_readDeclarations 1838 xv1 xv2 g) (N_Y_readDeclarations v1 v2 m) := by
  subst ev1
  subst ev2
  unfold M_Y_readDeclarations N_Y_readDeclarations
  refine rf_bind (fL_Y_readDeclarations_2 hy rfl rv1 rfl rv2 (e_n 0) (show inR 0 by decide) hR) (fun a2 m1 h => ?_)
  have hR3 : RC w y a2 n m1 := h
  refine rf_bind (fL_Y_readDeclarations_23 hy rfl rv2 rfl rv1 hR3) (fun a5 m4 h => ?_)
  have hR6 : RC w y a5 n m4 := h
  exact rf_ok (by exact hR6)
noncomputable def nb_Y_readRule_164 (v5 : Int) (v7 : Int) (v8 : Int) (m : YS) : Option ((Int × YS) ⊕ (YS)) :=
  if v8 < 11 then
    ck (11 * v7) <|
    ck ((11 * v7) + v8) <|
    ix v8 11 <|
    ix ((11 * v7) + v8) 451 <|
    st (yw m 98 ((11 * v7) + v8) (m 102 v8)) fun m9 =>
    ck (11 * v7) <|
    ck ((11 * v7) + v8) <|
    ix v8 11 <|
    ix ((11 * v7) + v8) 451 <|
    st (yw m9 99 ((11 * v7) + v8) (m9 103 v8)) fun m19 =>
    ck (v8 + 1) <|
    some (.inl (v8 + 1, m19))
  else
    some (.inr m)
theorem fb_Y_readRule_164 {w y : Prop} {g : g_S} {n : NS} {m : YS} (hy : y) {xv5 : Int32} {v5 : Int} (ev5 : xv5 = Int32.ofInt v5) (rv5 : inR v5) {xv7 : Int32} {v7 : Int} (ev7 : xv7 = Int32.ofInt v7) (rv7 : inR v7) {xv8 : Int32} {v8 : Int} (ev8 : xv8 = Int32.ofInt v8) (rv8 : inR v8) (hR : RC w y g n m) : Rf (RS (fun a b => RI a.1 b.1 ∧ RC w y a.2 n b.2) (fun a b => RC w y a n b)) (b_Y_readRule_164 1838 xv5 xv7 xv8 g) (nb_Y_readRule_164 v5 v7 v8 m) := by
  subst ev5
  subst ev7
  subst ev8
  unfold b_Y_readRule_164 nb_Y_readRule_164
  refine rf_lt rfl (e_n 11) rv8 (show inR 11 by decide) ?_ ?_
  · refine y_Q hR hy ya98.1 (by decide) ?_
    refine rf_ck (fun h3 => ?_)
    refine rf_ck (fun h4 => ?_)
    refine y_Q hR hy ya102.1 (by decide) ?_
    refine y_aI hR hy ya102 yl102 rfl rv8 (fun h6 h7 => ?_)
    refine y_sI hR hy ya98 yl98 (e_add (e_mul (e_n 11) rfl) rfl) h4 rfl h7 (fun g11 m9 hR10 => ?_)
    refine y_Q hR10 hy ya99.1 (by decide) ?_
    refine rf_ck (fun h13 => ?_)
    refine rf_ck (fun h14 => ?_)
    refine y_Q hR10 hy ya103.1 (by decide) ?_
    refine y_aI hR10 hy ya103 yl103 rfl rv8 (fun h16 h17 => ?_)
    refine y_sI hR10 hy ya99 yl99 (e_add (e_mul (e_n 11) rfl) rfl) h14 rfl h17 (fun g21 m19 hR20 => ?_)
    refine rf_ck (fun h22 => ?_)
    exact rf_ok (by exact ⟨⟨(e_add rfl (e_n 1)), h22⟩, hR20⟩)
  · exact rf_ok (by exact hR)
noncomputable def NL_Y_readRule_164 (v5 : Int) (v7 : Int) (v8 : Int) (m : YS) : Option (YS) :=
  it (fun s : Int × YS => nb_Y_readRule_164 v5 v7 s.1 s.2) (v8, m)
theorem fL_Y_readRule_164 {w y : Prop} {g : g_S} {n : NS} {m : YS} (hy : y) {xv5 : Int32} {v5 : Int} (ev5 : xv5 = Int32.ofInt v5) (rv5 : inR v5) {xv7 : Int32} {v7 : Int} (ev7 : xv7 = Int32.ofInt v7) (rv7 : inR v7) {xv8 : Int32} {v8 : Int} (ev8 : xv8 = Int32.ofInt v8) (rv8 : inR v8) (hR : RC w y g n m) : Rf (fun a b => RC w y a n b) (L_Y_readRule_164 1838 xv5 xv7 xv8 g) (NL_Y_readRule_164 v5 v7 v8 m) := by
  subst ev5
  subst ev7
  subst ev8
  unfold L_Y_readRule_164 NL_Y_readRule_164
  refine rf_it (I := (fun a b => RI a.1 b.1 ∧ RC w y a.2 n b.2)) (fun s t h => ?_) ⟨⟨rfl, rv8⟩, hR⟩
  exact fb_Y_readRule_164 hy rfl rv5 rfl rv7 h.1.1 h.1.2 h.2
theorem NL_Y_readRule_164_eq (v5 : Int) (v7 : Int) (v8 : Int) (m : YS) : NL_Y_readRule_164 v5 v7 v8 m = itc (nb_Y_readRule_164 v5 v7 v8 m) (fun s => NL_Y_readRule_164 v5 v7 s.1 s.2) := it_eq2 (fun s : Int × YS => nb_Y_readRule_164 v5 v7 s.1 s.2) (v8, m)
noncomputable def nb_Y_readRule_147 (v5 : Int) (v7 : Int) (m : YS) : Option ((Int × YS) ⊕ (YS)) :=
  if v7 < v5 then
    if v7 < 40 then
      (NL_Y_readRule_164 v5 v7 0 m).bind <| fun m3 =>
      ck (v7 + 1) <|
      some (.inl (v7 + 1, m3))
    else
      some (.inr m)
  else
    some (.inr m)
theorem fb_Y_readRule_147 {w y : Prop} {g : g_S} {n : NS} {m : YS} (hy : y) {xv5 : Int32} {v5 : Int} (ev5 : xv5 = Int32.ofInt v5) (rv5 : inR v5) {xv7 : Int32} {v7 : Int} (ev7 : xv7 = Int32.ofInt v7) (rv7 : inR v7) (hR : RC w y g n m) : Rf (RS (fun a b => RI a.1 b.1 ∧ RC w y a.2 n b.2) (fun a b => RC w y a n b)) (b_Y_readRule_147 1838 xv5 xv7 g) (nb_Y_readRule_147 v5 v7 m) := by
  subst ev5
  subst ev7
  unfold b_Y_readRule_147 nb_Y_readRule_147
  refine rf_lt rfl rfl rv7 rv5 ?_ ?_
  · refine rf_lt rfl (e_n 40) rv7 (show inR 40 by decide) ?_ ?_
    · refine rf_bind (fL_Y_readRule_164 hy rfl rv5 rfl rv7 (e_n 0) (show inR 0 by decide) hR) (fun a4 m3 h => ?_)
      have hR5 : RC w y a4 n m3 := h
      refine rf_ck (fun h6 => ?_)
      exact rf_ok (by exact ⟨⟨(e_add rfl (e_n 1)), h6⟩, hR5⟩)
    · exact rf_ok (by exact hR)
  · exact rf_ok (by exact hR)
noncomputable def NL_Y_readRule_147 (v5 : Int) (v7 : Int) (m : YS) : Option (YS) :=
  it (fun s : Int × YS => nb_Y_readRule_147 v5 s.1 s.2) (v7, m)
theorem fL_Y_readRule_147 {w y : Prop} {g : g_S} {n : NS} {m : YS} (hy : y) {xv5 : Int32} {v5 : Int} (ev5 : xv5 = Int32.ofInt v5) (rv5 : inR v5) {xv7 : Int32} {v7 : Int} (ev7 : xv7 = Int32.ofInt v7) (rv7 : inR v7) (hR : RC w y g n m) : Rf (fun a b => RC w y a n b) (L_Y_readRule_147 1838 xv5 xv7 g) (NL_Y_readRule_147 v5 v7 m) := by
  subst ev5
  subst ev7
  unfold L_Y_readRule_147 NL_Y_readRule_147
  refine rf_it (I := (fun a b => RI a.1 b.1 ∧ RC w y a.2 n b.2)) (fun s t h => ?_) ⟨⟨rfl, rv7⟩, hR⟩
  exact fb_Y_readRule_147 hy rfl rv5 h.1.1 h.1.2 h.2
theorem NL_Y_readRule_147_eq (v5 : Int) (v7 : Int) (m : YS) : NL_Y_readRule_147 v5 v7 m = itc (nb_Y_readRule_147 v5 v7 m) (fun s => NL_Y_readRule_147 v5 s.1 s.2) := it_eq2 (fun s : Int × YS => nb_Y_readRule_147 v5 s.1 s.2) (v7, m)
noncomputable def nk_Y_readRule_122 (v2 : Int) (v3 : Int) (v4 : Int) (v5 : Int) (v6 : Int) (m : YS) : Option ((Int × Int × YS) ⊕ ((YS) ⊕ (YS) ⊕ (Int × YS))) :=
  ck ((m 100 0) + 1) <|
  st (yw m 100 0 ((m 100 0) + 1)) fun m4 =>
  some (.inl (v5, v6, m4))
theorem fk_Y_readRule_122 {w y : Prop} {g : g_S} {n : NS} {m : YS} (hy : y) {xv2 : Int32} {v2 : Int} (ev2 : xv2 = Int32.ofInt v2) (rv2 : inR v2) {xv3 : Int32} {v3 : Int} (ev3 : xv3 = Int32.ofInt v3) (rv3 : inR v3) {xv4 : Int32} {v4 : Int} (ev4 : xv4 = Int32.ofInt v4) (rv4 : inR v4) {xv5 : Int32} {v5 : Int} (ev5 : xv5 = Int32.ofInt v5) (rv5 : inR v5) {xv6 : Int32} {v6 : Int} (ev6 : xv6 = Int32.ofInt v6) (rv6 : inR v6) (hR : RC w y g n m) : Rf (RS (fun a b => RI a.1 b.1 ∧ RI a.2.1 b.2.1 ∧ RC w y a.2.2 n b.2.2) (RS (fun a b => RC w y a n b) (RS (fun a b => RC w y a n b) (fun a b => RI a.1 b.1 ∧ RC w y a.2 n b.2)))) (k_Y_readRule_122 1838 xv2 xv3 xv4 xv5 xv6 g) (nk_Y_readRule_122 v2 v3 v4 v5 v6 m) := by
  subst ev2
  subst ev3
  subst ev4
  subst ev5
  subst ev6
  unfold k_Y_readRule_122 nk_Y_readRule_122
  refine y_I hR hy yk100 yt100 (fun h1 => ?_)
  refine rf_ck (fun h2 => ?_)
  refine y_pI hR hy yk100 ⟨yt100, yz100⟩ (e_add rfl (e_n 1)) h2 (fun g6 m4 hR5 => ?_)
  exact rf_ok (by exact ⟨⟨rfl, rv5⟩, ⟨rfl, rv6⟩, hR5⟩)
noncomputable def nk_Y_readRule_106 (v2 : Int) (v3 : Int) (v4 : Int) (v5 : Int) (w0 : Int) (m : YS) : Option ((Int × Int × YS) ⊕ ((YS) ⊕ (YS) ⊕ (Int × YS))) :=
  if w0 = 0 then
    if (m 100 0) < v2 then
      some (.inr (.inr (.inl m)))
    else
      nk_Y_readRule_122 v2 v3 v4 v5 w0 m
  else
    nk_Y_readRule_122 v2 v3 v4 v5 w0 m
theorem fk_Y_readRule_106 {w y : Prop} {g : g_S} {n : NS} {m : YS} (hy : y) {xv2 : Int32} {v2 : Int} (ev2 : xv2 = Int32.ofInt v2) (rv2 : inR v2) {xv3 : Int32} {v3 : Int} (ev3 : xv3 = Int32.ofInt v3) (rv3 : inR v3) {xv4 : Int32} {v4 : Int} (ev4 : xv4 = Int32.ofInt v4) (rv4 : inR v4) {xv5 : Int32} {v5 : Int} (ev5 : xv5 = Int32.ofInt v5) (rv5 : inR v5) {xw0 : Int32} {w0 : Int} (ew0 : xw0 = Int32.ofInt w0) (rw0 : inR w0) (hR : RC w y g n m) : Rf (RS (fun a b => RI a.1 b.1 ∧ RI a.2.1 b.2.1 ∧ RC w y a.2.2 n b.2.2) (RS (fun a b => RC w y a n b) (RS (fun a b => RC w y a n b) (fun a b => RI a.1 b.1 ∧ RC w y a.2 n b.2)))) (k_Y_readRule_106 1838 xv2 xv3 xv4 xv5 xw0 g) (nk_Y_readRule_106 v2 v3 v4 v5 w0 m) := by
  subst ev2
  subst ev3
  subst ev4
  subst ev5
  subst ew0
  unfold k_Y_readRule_106 nk_Y_readRule_106
  refine rf_eq rfl (e_n 0) rw0 (show inR 0 by decide) ?_ ?_
  · refine y_I hR hy yk100 yt100 (fun h2 => ?_)
    refine rf_lt rfl rfl h2 rv2 ?_ ?_
    · exact rf_ok (by exact hR)
    · exact fk_Y_readRule_122 hy rfl rv2 rfl rv3 rfl rv4 rfl rv5 rfl rw0 hR
  · exact fk_Y_readRule_122 hy rfl rv2 rfl rv3 rfl rv4 rfl rv5 rfl rw0 hR
noncomputable def nk_Y_readRule_105 (v2 : Int) (v3 : Int) (v4 : Int) (v5 : Int) (m : YS) : Option ((Int × Int × YS) ⊕ ((YS) ⊕ (YS) ⊕ (Int × YS))) :=
  nk_Y_readRule_106 v2 v3 v4 v5 0 m
theorem fk_Y_readRule_105 {w y : Prop} {g : g_S} {n : NS} {m : YS} (hy : y) {xv2 : Int32} {v2 : Int} (ev2 : xv2 = Int32.ofInt v2) (rv2 : inR v2) {xv3 : Int32} {v3 : Int} (ev3 : xv3 = Int32.ofInt v3) (rv3 : inR v3) {xv4 : Int32} {v4 : Int} (ev4 : xv4 = Int32.ofInt v4) (rv4 : inR v4) {xv5 : Int32} {v5 : Int} (ev5 : xv5 = Int32.ofInt v5) (rv5 : inR v5) (hR : RC w y g n m) : Rf (RS (fun a b => RI a.1 b.1 ∧ RI a.2.1 b.2.1 ∧ RC w y a.2.2 n b.2.2) (RS (fun a b => RC w y a n b) (RS (fun a b => RC w y a n b) (fun a b => RI a.1 b.1 ∧ RC w y a.2 n b.2)))) (k_Y_readRule_105 1838 xv2 xv3 xv4 xv5 g) (nk_Y_readRule_105 v2 v3 v4 v5 m) := by
  subst ev2
  subst ev3
  subst ev4
  subst ev5
  unfold k_Y_readRule_105 nk_Y_readRule_105
  exact fk_Y_readRule_106 hy rfl rv2 rfl rv3 rfl rv4 rfl rv5 (e_n 0) (show inR 0 by decide) hR
noncomputable def nb_Y_readRule_20 (v2 : Int) (v3 : Int) (v4 : Int) (v5 : Int) (v6 : Int) (m : YS) : Option ((Int × Int × YS) ⊕ ((YS) ⊕ (YS) ⊕ (Int × YS))) :=
  if v6 = 0 then
    some (.inr (.inr (.inr (v5, m))))
  else
    (N_Y_blanks (m 100 0) v2 m).bind fun z4 =>
    st (yw m 100 0 z4) fun m8 =>
    (N_Y_readSelector 101 v2 (min v5 40) 0 m8).bind <| u2 fun z14 m17 =>
    if z14 < 0 then
      ck (v5 + 1) <|
      (N_Y_blanks (m17 100 0) v2 m17).bind fun z24 =>
      st (yw m17 100 0 z24) fun m28 =>
      if (m28 100 0) < v2 then
        ix (m28 100 0) 400 <|
        if (m28 101 (m28 100 0)) = 44 then
          nk_Y_readRule_106 v2 v3 v4 (v5 + 1) 1 m28
        else
          nk_Y_readRule_105 v2 v3 v4 (v5 + 1) m28
      else
        nk_Y_readRule_105 v2 v3 v4 (v5 + 1) m28
    else
      some (.inr (.inl m17))
theorem fb_Y_readRule_20 {w y : Prop} {g : g_S} {n : NS} {m : YS} (hy : y) {xv2 : Int32} {v2 : Int} (ev2 : xv2 = Int32.ofInt v2) (rv2 : inR v2) {xv3 : Int32} {v3 : Int} (ev3 : xv3 = Int32.ofInt v3) (rv3 : inR v3) {xv4 : Int32} {v4 : Int} (ev4 : xv4 = Int32.ofInt v4) (rv4 : inR v4) {xv5 : Int32} {v5 : Int} (ev5 : xv5 = Int32.ofInt v5) (rv5 : inR v5) {xv6 : Int32} {v6 : Int} (ev6 : xv6 = Int32.ofInt v6) (rv6 : inR v6) (hR : RC w y g n m) : Rf (RS (fun a b => RI a.1 b.1 ∧ RI a.2.1 b.2.1 ∧ RC w y a.2.2 n b.2.2) (RS (fun a b => RC w y a n b) (RS (fun a b => RC w y a n b) (fun a b => RI a.1 b.1 ∧ RC w y a.2 n b.2)))) (b_Y_readRule_20 1838 xv2 xv3 xv4 xv5 xv6 g) (nb_Y_readRule_20 v2 v3 v4 v5 v6 m) := by
  subst ev2
  subst ev3
  subst ev4
  subst ev5
  subst ev6
  unfold b_Y_readRule_20 nb_Y_readRule_20
  refine rf_eq rfl (e_n 0) rv6 (show inR 0 by decide) ?_ ?_
  · exact rf_ok (by exact ⟨⟨rfl, rv5⟩, hR⟩)
  · refine y_I hR hy yk100 yt100 (fun h2 => ?_)
    refine v_c (y_gt hR hy) ?_
    refine rf_bind (f_Y_blanks hy rfl h2 rfl rv2 hR) (fun a6 z4 h => ?_)
    obtain ⟨rfl, r5⟩ := h
    refine y_pI hR hy yk100 ⟨yt100, yz100⟩ rfl r5 (fun g10 m8 hR9 => ?_)
    refine y_Q hR9 hy ya101.1 (by decide) ?_
    refine v_c2 (y_gt hR9 hy) ?_
    refine rf_c2 (f_Y_readSelector hy rfl ya101 rfl rv2 (e_mn rfl (e_n 40) rv5 (show inR 40 by decide)) (min_r rv5 (show inR 40 by decide)) (e_n 0) (show inR 0 by decide) hR9) (fun a16 g19 b h => ?_)
    obtain ⟨z14, m17⟩ := b
    refine rf_v2 ?_
    obtain ⟨rfl, r15⟩ := (show RI a16 z14 from h.1)
    have hR18 : RC w y g19 n m17 := h.2
    refine rf_lt rfl (e_n 0) r15 (show inR 0 by decide) ?_ ?_
    · refine rf_ck (fun h21 => ?_)
      refine y_I hR18 hy yk100 yt100 (fun h22 => ?_)
      refine v_c (y_gt hR18 hy) ?_
      refine rf_bind (f_Y_blanks hy rfl h22 rfl rv2 hR18) (fun a26 z24 h => ?_)
      obtain ⟨rfl, r25⟩ := h
      refine y_pI hR18 hy yk100 ⟨yt100, yz100⟩ rfl r25 (fun g30 m28 hR29 => ?_)
      refine y_I hR29 hy yk100 yt100 (fun h31 => ?_)
      refine rf_lt rfl rfl h31 rv2 ?_ ?_
      · refine y_Q hR29 hy ya101.1 (by decide) ?_
        refine y_I hR29 hy yk100 yt100 (fun h34 => ?_)
        refine y_aB hR29 hy ya101 yl101 rfl h34 (fun h35 h36 => ?_)
        refine rf_eq rfl (e_n 44) (inB.r h36) (show inR 44 by decide) ?_ ?_
        · exact fk_Y_readRule_106 hy rfl rv2 rfl rv3 rfl rv4 (e_add rfl (e_n 1)) h21 (e_n 1) (show inR 1 by decide) hR29
        · exact fk_Y_readRule_105 hy rfl rv2 rfl rv3 rfl rv4 (e_add rfl (e_n 1)) h21 hR29
      · exact fk_Y_readRule_105 hy rfl rv2 rfl rv3 rfl rv4 (e_add rfl (e_n 1)) h21 hR29
    · exact rf_ok (by exact hR18)
noncomputable def NL_Y_readRule_20 (v2 : Int) (v3 : Int) (v4 : Int) (v5 : Int) (v6 : Int) (m : YS) : Option ((YS) ⊕ (YS) ⊕ (Int × YS)) :=
  it (fun s : Int × Int × YS => nb_Y_readRule_20 v2 v3 v4 s.1 s.2.1 s.2.2) (v5, v6, m)
theorem fL_Y_readRule_20 {w y : Prop} {g : g_S} {n : NS} {m : YS} (hy : y) {xv2 : Int32} {v2 : Int} (ev2 : xv2 = Int32.ofInt v2) (rv2 : inR v2) {xv3 : Int32} {v3 : Int} (ev3 : xv3 = Int32.ofInt v3) (rv3 : inR v3) {xv4 : Int32} {v4 : Int} (ev4 : xv4 = Int32.ofInt v4) (rv4 : inR v4) {xv5 : Int32} {v5 : Int} (ev5 : xv5 = Int32.ofInt v5) (rv5 : inR v5) {xv6 : Int32} {v6 : Int} (ev6 : xv6 = Int32.ofInt v6) (rv6 : inR v6) (hR : RC w y g n m) : Rf (RS (fun a b => RC w y a n b) (RS (fun a b => RC w y a n b) (fun a b => RI a.1 b.1 ∧ RC w y a.2 n b.2))) (L_Y_readRule_20 1838 xv2 xv3 xv4 xv5 xv6 g) (NL_Y_readRule_20 v2 v3 v4 v5 v6 m) := by
  subst ev2
  subst ev3
  subst ev4
  subst ev5
  subst ev6
  unfold L_Y_readRule_20 NL_Y_readRule_20
  refine rf_it (I := (fun a b => RI a.1 b.1 ∧ RI a.2.1 b.2.1 ∧ RC w y a.2.2 n b.2.2)) (fun s t h => ?_) ⟨⟨rfl, rv5⟩, ⟨rfl, rv6⟩, hR⟩
  exact fb_Y_readRule_20 hy rfl rv2 rfl rv3 rfl rv4 h.1.1 h.1.2 h.2.1.1 h.2.1.2 h.2.2
theorem NL_Y_readRule_20_eq (v2 : Int) (v3 : Int) (v4 : Int) (v5 : Int) (v6 : Int) (m : YS) : NL_Y_readRule_20 v2 v3 v4 v5 v6 m = itc (nb_Y_readRule_20 v2 v3 v4 v5 v6 m) (fun s => NL_Y_readRule_20 v2 v3 v4 s.1 s.2.1 s.2.2) := it_eq2 (fun s : Int × Int × YS => nb_Y_readRule_20 v2 v3 v4 s.1 s.2.1 s.2.2) (v5, v6, m)
noncomputable def nk_Y_readRule_223 (v5 : Int) (m : YS) : Option (YS) :=
  st (yw m 89 0 (min v5 40)) fun m3 =>
  some m3
theorem fk_Y_readRule_223 {w y : Prop} {g : g_S} {n : NS} {m : YS} (hy : y) {xv5 : Int32} {v5 : Int} (ev5 : xv5 = Int32.ofInt v5) (rv5 : inR v5) (hR : RC w y g n m) : Rf (fun a b => RC w y a n b) (k_Y_readRule_223 1838 xv5 g) (nk_Y_readRule_223 v5 m) := by
  subst ev5
  unfold k_Y_readRule_223 nk_Y_readRule_223
  refine y_pI hR hy yk89 ⟨yt89, yz89⟩ (e_mn rfl (e_n 40) rv5 (show inR 40 by decide)) (min_r rv5 (show inR 40 by decide)) (fun g5 m3 hR4 => ?_)
  exact rf_ok (by exact hR4)
noncomputable def N_Y_readRule (v1 : Int) (v2 : Int) (v3 : Int) (m : YS) : Option (YS) :=
  st (yw m 100 0 v1) fun m4 =>
  (NL_Y_readRule_20 v2 v3 (m 89 0) (m 89 0) 1 m4).bind <|
    us (fun m7 =>
    some m7)
    (us (fun m11 =>
    some m11)
    (u2 fun z15 m16 =>
    ck (v2 + 1) <|
    (N_Y_readDeclarations (v2 + 1) v3 m16).bind fun m23 =>
    (NL_Y_readRule_147 z15 (m 89 0) m23).bind <| fun m26 =>
    nk_Y_readRule_223 z15 m26))
theorem f_Y_readRule {w y : Prop} {g : g_S} {n : NS} {m : YS} (hy : y) {xv1 : Int32} {v1 : Int} (ev1 : xv1 = Int32.ofInt v1) (rv1 : inR v1) {xv2 : Int32} {v2 : Int} (ev2 : xv2 = Int32.ofInt v2) (rv2 : inR v2) {xv3 : Int32} {v3 : Int} (ev3 : xv3 = Int32.ofInt v3) (rv3 : inR v3) (hR : RC w y g n m) : Rf (fun a b => RC w y a n b) (M_Y_readRule 1838 xv1 xv2 xv3 g) (N_Y_readRule v1 v2 v3 m) := by
  subst ev1
  subst ev2
  subst ev3
  unfold M_Y_readRule N_Y_readRule
  refine y_I hR hy yk89 yt89 (fun h1 => ?_)
  refine y_I hR hy yk89 yt89 (fun h2 => ?_)
  refine y_pI hR hy yk100 ⟨yt100, yz100⟩ rfl rv1 (fun g6 m4 hR5 => ?_)
  refine rf_bind (fL_Y_readRule_20 hy rfl rv2 rfl rv3 rfl h1 rfl h2 (e_n 1) (show inR 1 by decide) hR5) (fun a b h => rf_us h (fun a8 m7 h => ?_) (fun a b h => rf_us h (fun a12 m11 h => ?_) (fun a b h => ?_)))
  · have hR9 : RC w y a8 n m7 := h
    exact rf_ok (by exact hR9)
  · have hR13 : RC w y a12 n m11 := h
    exact rf_ok (by exact hR13)
  · obtain ⟨a17, a18⟩ := a
    obtain ⟨z15, m16⟩ := b
    refine rf_u2 ?_
    obtain ⟨rfl, r20⟩ := (show RI a17 z15 from h.1)
    have hR19 : RC w y a18 n m16 := h.2
    refine rf_ck (fun h21 => ?_)
    refine v_c (y_gt hR19 hy) ?_
    refine rf_bind (f_Y_readDeclarations hy (e_add rfl (e_n 1)) h21 rfl rv3 hR19) (fun g25 m23 hR24 => ?_)
    refine rf_bind (fL_Y_readRule_147 hy rfl r20 rfl h1 hR24) (fun a27 m26 h => ?_)
    have hR28 : RC w y a27 n m26 := h
    exact fk_Y_readRule_223 hy rfl r20 hR28
noncomputable def nb_Y_readSheet_14 (v1 : Int) (v2 : Int) (v3 : Int) (m : YS) : Option ((Int) ⊕ (Int)) :=
  if v3 < v1 then
    ix v3 400 <|
    if (m 101 v3) = 125 then
      some (.inr v3)
    else
      ck (v3 + 1) <|
      some (.inl (v3 + 1))
  else
    some (.inr v3)
theorem fb_Y_readSheet_14 {w y : Prop} {g : g_S} {n : NS} {m : YS} (hy : y) {xv1 : Int32} {v1 : Int} (ev1 : xv1 = Int32.ofInt v1) (rv1 : inR v1) {xv2 : Int32} {v2 : Int} (ev2 : xv2 = Int32.ofInt v2) (rv2 : inR v2) {xv3 : Int32} {v3 : Int} (ev3 : xv3 = Int32.ofInt v3) (rv3 : inR v3) (hR : RC w y g n m) : Rf (RS (fun a b => RI a b) (fun a b => RI a b)) (b_Y_readSheet_14 1838 xv1 xv2 xv3 g) (nb_Y_readSheet_14 v1 v2 v3 m) := by
  subst ev1
  subst ev2
  subst ev3
  unfold b_Y_readSheet_14 nb_Y_readSheet_14
  refine rf_lt rfl rfl rv3 rv1 ?_ ?_
  · refine y_Q hR hy ya101.1 (by decide) ?_
    refine y_aB hR hy ya101 yl101 rfl rv3 (fun h3 h4 => ?_)
    refine rf_eq rfl (e_n 125) (inB.r h4) (show inR 125 by decide) ?_ ?_
    · exact rf_ok (by exact ⟨rfl, rv3⟩)
    · refine rf_ck (fun h6 => ?_)
      exact rf_ok (by exact ⟨(e_add rfl (e_n 1)), h6⟩)
  · exact rf_ok (by exact ⟨rfl, rv3⟩)
noncomputable def NL_Y_readSheet_14 (v1 : Int) (v2 : Int) (v3 : Int) (m : YS) : Option (Int) :=
  it (fun s : Int => nb_Y_readSheet_14 v1 v2 s m) (v3)
theorem fL_Y_readSheet_14 {w y : Prop} {g : g_S} {n : NS} {m : YS} (hy : y) {xv1 : Int32} {v1 : Int} (ev1 : xv1 = Int32.ofInt v1) (rv1 : inR v1) {xv2 : Int32} {v2 : Int} (ev2 : xv2 = Int32.ofInt v2) (rv2 : inR v2) {xv3 : Int32} {v3 : Int} (ev3 : xv3 = Int32.ofInt v3) (rv3 : inR v3) (hR : RC w y g n m) : Rf (fun a b => RI a b) (L_Y_readSheet_14 1838 xv1 xv2 xv3 g) (NL_Y_readSheet_14 v1 v2 v3 m) := by
  subst ev1
  subst ev2
  subst ev3
  unfold L_Y_readSheet_14 NL_Y_readSheet_14
  refine rf_it (I := (fun a b => RI a b)) (fun s t h => ?_) ⟨rfl, rv3⟩
  exact fb_Y_readSheet_14 hy rfl rv1 rfl rv2 h.1 h.2 hR
theorem NL_Y_readSheet_14_eq (v1 : Int) (v2 : Int) (v3 : Int) (m : YS) : NL_Y_readSheet_14 v1 v2 v3 m = itc (nb_Y_readSheet_14 v1 v2 v3 m) (fun s => NL_Y_readSheet_14 v1 v2 s m) := it_eq2 (fun s : Int => nb_Y_readSheet_14 v1 v2 s m) (v3)
noncomputable def nb_Y_readSheet_45 (v1 : Int) (v2 : Int) (v3 : Int) (v4 : Int) (m : YS) : Option ((Int) ⊕ (Int)) :=
  if v4 < v3 then
    ix v4 400 <|
    if (m 101 v4) = 123 then
      some (.inr v4)
    else
      ck (v4 + 1) <|
      some (.inl (v4 + 1))
  else
    some (.inr v4)
theorem fb_Y_readSheet_45 {w y : Prop} {g : g_S} {n : NS} {m : YS} (hy : y) {xv1 : Int32} {v1 : Int} (ev1 : xv1 = Int32.ofInt v1) (rv1 : inR v1) {xv2 : Int32} {v2 : Int} (ev2 : xv2 = Int32.ofInt v2) (rv2 : inR v2) {xv3 : Int32} {v3 : Int} (ev3 : xv3 = Int32.ofInt v3) (rv3 : inR v3) {xv4 : Int32} {v4 : Int} (ev4 : xv4 = Int32.ofInt v4) (rv4 : inR v4) (hR : RC w y g n m) : Rf (RS (fun a b => RI a b) (fun a b => RI a b)) (b_Y_readSheet_45 1838 xv1 xv2 xv3 xv4 g) (nb_Y_readSheet_45 v1 v2 v3 v4 m) := by
  subst ev1
  subst ev2
  subst ev3
  subst ev4
  unfold b_Y_readSheet_45 nb_Y_readSheet_45
  refine rf_lt rfl rfl rv4 rv3 ?_ ?_
  · refine y_Q hR hy ya101.1 (by decide) ?_
    refine y_aB hR hy ya101 yl101 rfl rv4 (fun h3 h4 => ?_)
    refine rf_eq rfl (e_n 123) (inB.r h4) (show inR 123 by decide) ?_ ?_
    · exact rf_ok (by exact ⟨rfl, rv4⟩)
    · refine rf_ck (fun h6 => ?_)
      exact rf_ok (by exact ⟨(e_add rfl (e_n 1)), h6⟩)
  · exact rf_ok (by exact ⟨rfl, rv4⟩)
noncomputable def NL_Y_readSheet_45 (v1 : Int) (v2 : Int) (v3 : Int) (v4 : Int) (m : YS) : Option (Int) :=
  it (fun s : Int => nb_Y_readSheet_45 v1 v2 v3 s m) (v4)
theorem fL_Y_readSheet_45 {w y : Prop} {g : g_S} {n : NS} {m : YS} (hy : y) {xv1 : Int32} {v1 : Int} (ev1 : xv1 = Int32.ofInt v1) (rv1 : inR v1) {xv2 : Int32} {v2 : Int} (ev2 : xv2 = Int32.ofInt v2) (rv2 : inR v2) {xv3 : Int32} {v3 : Int} (ev3 : xv3 = Int32.ofInt v3) (rv3 : inR v3) {xv4 : Int32} {v4 : Int} (ev4 : xv4 = Int32.ofInt v4) (rv4 : inR v4) (hR : RC w y g n m) : Rf (fun a b => RI a b) (L_Y_readSheet_45 1838 xv1 xv2 xv3 xv4 g) (NL_Y_readSheet_45 v1 v2 v3 v4 m) := by
  subst ev1
  subst ev2
  subst ev3
  subst ev4
  unfold L_Y_readSheet_45 NL_Y_readSheet_45
  refine rf_it (I := (fun a b => RI a b)) (fun s t h => ?_) ⟨rfl, rv4⟩
  exact fb_Y_readSheet_45 hy rfl rv1 rfl rv2 rfl rv3 h.1 h.2 hR
theorem NL_Y_readSheet_45_eq (v1 : Int) (v2 : Int) (v3 : Int) (v4 : Int) (m : YS) : NL_Y_readSheet_45 v1 v2 v3 v4 m = itc (nb_Y_readSheet_45 v1 v2 v3 v4 m) (fun s => NL_Y_readSheet_45 v1 v2 v3 s m) := it_eq2 (fun s : Int => nb_Y_readSheet_45 v1 v2 v3 s m) (v4)
noncomputable def nk_Y_readSheet_83 (v1 : Int) (v3 : Int) (m : YS) : Option ((Int × YS) ⊕ ((YS) ⊕ (YS))) :=
  ck (v3 + 1) <|
  (N_Y_blanks (v3 + 1) v1 m).bind fun z3 =>
  some (.inl (z3, m))
theorem fk_Y_readSheet_83 {w y : Prop} {g : g_S} {n : NS} {m : YS} (hy : y) {xv1 : Int32} {v1 : Int} (ev1 : xv1 = Int32.ofInt v1) (rv1 : inR v1) {xv3 : Int32} {v3 : Int} (ev3 : xv3 = Int32.ofInt v3) (rv3 : inR v3) (hR : RC w y g n m) : Rf (RS (fun a b => RI a.1 b.1 ∧ RC w y a.2 n b.2) (RS (fun a b => RC w y a n b) (fun a b => RC w y a n b))) (k_Y_readSheet_83 1838 xv1 xv3 g) (nk_Y_readSheet_83 v1 v3 m) := by
  subst ev1
  subst ev3
  unfold k_Y_readSheet_83 nk_Y_readSheet_83
  refine rf_ck (fun h1 => ?_)
  refine v_c (y_gt hR hy) ?_
  refine rf_bind (f_Y_blanks hy (e_add rfl (e_n 1)) h1 rfl rv1 hR) (fun a5 z3 h => ?_)
  obtain ⟨rfl, r4⟩ := h
  exact rf_ok (by exact ⟨⟨rfl, r4⟩, hR⟩)
noncomputable def nk_Y_readSheet_69 (v1 : Int) (v2 : Int) (v3 : Int) (v4 : Int) (m : YS) : Option ((Int × YS) ⊕ ((YS) ⊕ (YS))) :=
  if v4 < v3 then
    (N_Y_readRule v2 v4 v3 m).bind fun m3 =>
    nk_Y_readSheet_83 v1 v3 m3
  else
    nk_Y_readSheet_83 v1 v3 m
theorem fk_Y_readSheet_69 {w y : Prop} {g : g_S} {n : NS} {m : YS} (hy : y) {xv1 : Int32} {v1 : Int} (ev1 : xv1 = Int32.ofInt v1) (rv1 : inR v1) {xv2 : Int32} {v2 : Int} (ev2 : xv2 = Int32.ofInt v2) (rv2 : inR v2) {xv3 : Int32} {v3 : Int} (ev3 : xv3 = Int32.ofInt v3) (rv3 : inR v3) {xv4 : Int32} {v4 : Int} (ev4 : xv4 = Int32.ofInt v4) (rv4 : inR v4) (hR : RC w y g n m) : Rf (RS (fun a b => RI a.1 b.1 ∧ RC w y a.2 n b.2) (RS (fun a b => RC w y a n b) (fun a b => RC w y a n b))) (k_Y_readSheet_69 1838 xv1 xv2 xv3 xv4 g) (nk_Y_readSheet_69 v1 v2 v3 v4 m) := by
  subst ev1
  subst ev2
  subst ev3
  subst ev4
  unfold k_Y_readSheet_69 nk_Y_readSheet_69
  refine rf_lt rfl rfl rv4 rv3 ?_ ?_
  · refine v_c (y_gt hR hy) ?_
    refine rf_bind (f_Y_readRule hy rfl rv2 rfl rv4 rfl rv3 hR) (fun g5 m3 hR4 => ?_)
    exact fk_Y_readSheet_83 hy rfl rv1 rfl rv3 hR4
  · exact fk_Y_readSheet_83 hy rfl rv1 rfl rv3 hR
noncomputable def nk_Y_readSheet_36 (v1 : Int) (v2 : Int) (v3 : Int) (m : YS) : Option ((Int × YS) ⊕ ((YS) ⊕ (YS))) :=
  if v3 = v1 then
    some (.inr (.inl m))
  else
    (NL_Y_readSheet_45 v1 v2 v3 v2 m).bind <| fun z2 =>
    nk_Y_readSheet_69 v1 v2 v3 z2 m
theorem fk_Y_readSheet_36 {w y : Prop} {g : g_S} {n : NS} {m : YS} (hy : y) {xv1 : Int32} {v1 : Int} (ev1 : xv1 = Int32.ofInt v1) (rv1 : inR v1) {xv2 : Int32} {v2 : Int} (ev2 : xv2 = Int32.ofInt v2) (rv2 : inR v2) {xv3 : Int32} {v3 : Int} (ev3 : xv3 = Int32.ofInt v3) (rv3 : inR v3) (hR : RC w y g n m) : Rf (RS (fun a b => RI a.1 b.1 ∧ RC w y a.2 n b.2) (RS (fun a b => RC w y a n b) (fun a b => RC w y a n b))) (k_Y_readSheet_36 1838 xv1 xv2 xv3 g) (nk_Y_readSheet_36 v1 v2 v3 m) := by
  subst ev1
  subst ev2
  subst ev3
  unfold k_Y_readSheet_36 nk_Y_readSheet_36
  refine rf_eq rfl rfl rv3 rv1 ?_ ?_
  · exact rf_ok (by exact hR)
  · refine rf_bind (fL_Y_readSheet_45 hy rfl rv1 rfl rv2 rfl rv3 rfl rv2 hR) (fun a3 z2 h => ?_)
    obtain ⟨rfl, r4⟩ := (show RI a3 z2 from h)
    exact fk_Y_readSheet_69 hy rfl rv1 rfl rv2 rfl rv3 rfl r4 hR
noncomputable def nb_Y_readSheet_7 (v1 : Int) (v2 : Int) (m : YS) : Option ((Int × YS) ⊕ ((YS) ⊕ (YS))) :=
  if v2 < v1 then
    (NL_Y_readSheet_14 v1 v2 v2 m).bind <| fun z2 =>
    nk_Y_readSheet_36 v1 v2 z2 m
  else
    some (.inr (.inr m))
theorem fb_Y_readSheet_7 {w y : Prop} {g : g_S} {n : NS} {m : YS} (hy : y) {xv1 : Int32} {v1 : Int} (ev1 : xv1 = Int32.ofInt v1) (rv1 : inR v1) {xv2 : Int32} {v2 : Int} (ev2 : xv2 = Int32.ofInt v2) (rv2 : inR v2) (hR : RC w y g n m) : Rf (RS (fun a b => RI a.1 b.1 ∧ RC w y a.2 n b.2) (RS (fun a b => RC w y a n b) (fun a b => RC w y a n b))) (b_Y_readSheet_7 1838 xv1 xv2 g) (nb_Y_readSheet_7 v1 v2 m) := by
  subst ev1
  subst ev2
  unfold b_Y_readSheet_7 nb_Y_readSheet_7
  refine rf_lt rfl rfl rv2 rv1 ?_ ?_
  · refine rf_bind (fL_Y_readSheet_14 hy rfl rv1 rfl rv2 rfl rv2 hR) (fun a3 z2 h => ?_)
    obtain ⟨rfl, r4⟩ := (show RI a3 z2 from h)
    exact fk_Y_readSheet_36 hy rfl rv1 rfl rv2 rfl r4 hR
  · exact rf_ok (by exact hR)
noncomputable def NL_Y_readSheet_7 (v1 : Int) (v2 : Int) (m : YS) : Option ((YS) ⊕ (YS)) :=
  it (fun s : Int × YS => nb_Y_readSheet_7 v1 s.1 s.2) (v2, m)
theorem fL_Y_readSheet_7 {w y : Prop} {g : g_S} {n : NS} {m : YS} (hy : y) {xv1 : Int32} {v1 : Int} (ev1 : xv1 = Int32.ofInt v1) (rv1 : inR v1) {xv2 : Int32} {v2 : Int} (ev2 : xv2 = Int32.ofInt v2) (rv2 : inR v2) (hR : RC w y g n m) : Rf (RS (fun a b => RC w y a n b) (fun a b => RC w y a n b)) (L_Y_readSheet_7 1838 xv1 xv2 g) (NL_Y_readSheet_7 v1 v2 m) := by
  subst ev1
  subst ev2
  unfold L_Y_readSheet_7 NL_Y_readSheet_7
  refine rf_it (I := (fun a b => RI a.1 b.1 ∧ RC w y a.2 n b.2)) (fun s t h => ?_) ⟨⟨rfl, rv2⟩, hR⟩
  exact fb_Y_readSheet_7 hy rfl rv1 h.1.1 h.1.2 h.2
theorem NL_Y_readSheet_7_eq (v1 : Int) (v2 : Int) (m : YS) : NL_Y_readSheet_7 v1 v2 m = itc (nb_Y_readSheet_7 v1 v2 m) (fun s => NL_Y_readSheet_7 v1 s.1 s.2) := it_eq2 (fun s : Int × YS => nb_Y_readSheet_7 v1 s.1 s.2) (v2, m)
noncomputable def N_Y_readSheet (v1 : Int) (m : YS) : Option (YS) :=
  (N_Y_blanks 0 v1 m).bind fun z2 =>
  (NL_Y_readSheet_7 v1 z2 m).bind <|
    us (fun m5 =>
    some m5)
    (fun m9 =>
    some m9)
theorem f_Y_readSheet {w y : Prop} {g : g_S} {n : NS} {m : YS} (hy : y) {xv1 : Int32} {v1 : Int} (ev1 : xv1 = Int32.ofInt v1) (rv1 : inR v1) (hR : RC w y g n m) : Rf (fun a b => RC w y a n b) (M_Y_readSheet 1838 xv1 g) (N_Y_readSheet v1 m) := by
  subst ev1
  unfold M_Y_readSheet N_Y_readSheet
  refine v_c (y_gt hR hy) ?_
  refine rf_bind (f_Y_blanks hy (e_n 0) (show inR 0 by decide) rfl rv1 hR) (fun a4 z2 h => ?_)
  obtain ⟨rfl, r3⟩ := h
  refine rf_bind (fL_Y_readSheet_7 hy rfl rv1 rfl r3 hR) (fun a b h => rf_us h (fun a6 m5 h => ?_) (fun a10 m9 h => ?_))
  · have hR7 : RC w y a6 n m5 := h
    exact rf_ok (by exact hR7)
  · have hR11 : RC w y a10 n m9 := h
    exact rf_ok (by exact hR11)
noncomputable def nb_Y_readStyles_44 (v1 : Int) (v2 : Int) (m : YS) : Option ((Int × YS) ⊕ (YS)) :=
  ix v1 120 <|
  if v2 < (m 62 v1) then
    ck (400 * v1) <|
    ck ((400 * v1) + v2) <|
    ix ((400 * v1) + v2) 48000 <|
    ix v2 400 <|
    st (yw m 101 v2 (m 61 ((400 * v1) + v2))) fun m12 =>
    ck (v2 + 1) <|
    some (.inl (v2 + 1, m12))
  else
    some (.inr m)
theorem fb_Y_readStyles_44 {w y : Prop} {g : g_S} {n : NS} {m : YS} (hy : y) {xv1 : Int32} {v1 : Int} (ev1 : xv1 = Int32.ofInt v1) (rv1 : inR v1) {xv2 : Int32} {v2 : Int} (ev2 : xv2 = Int32.ofInt v2) (rv2 : inR v2) (hR : RC w y g n m) : Rf (RS (fun a b => RI a.1 b.1 ∧ RC w y a.2 n b.2) (fun a b => RC w y a n b)) (b_Y_readStyles_44 1838 xv1 xv2 g) (nb_Y_readStyles_44 v1 v2 m) := by
  subst ev1
  subst ev2
  unfold b_Y_readStyles_44 nb_Y_readStyles_44
  refine y_Q hR hy ya62.1 (by decide) ?_
  refine y_aI hR hy ya62 yl62 rfl rv1 (fun h2 h3 => ?_)
  refine rf_lt rfl rfl rv2 h3 ?_ ?_
  · refine y_Q hR hy ya101.1 (by decide) ?_
    refine y_Q hR hy ya61.1 (by decide) ?_
    refine rf_ck (fun h7 => ?_)
    refine rf_ck (fun h8 => ?_)
    refine y_aB hR hy ya61 yl61 (e_add (e_mul (e_n 400) rfl) rfl) h8 (fun h9 h10 => ?_)
    refine y_sB hR hy ya101 yl101 rfl rv2 rfl h10 (fun g14 m12 hR13 => ?_)
    refine rf_ck (fun h15 => ?_)
    exact rf_ok (by exact ⟨⟨(e_add rfl (e_n 1)), h15⟩, hR13⟩)
  · exact rf_ok (by exact hR)
noncomputable def NL_Y_readStyles_44 (v1 : Int) (v2 : Int) (m : YS) : Option (YS) :=
  it (fun s : Int × YS => nb_Y_readStyles_44 v1 s.1 s.2) (v2, m)
theorem fL_Y_readStyles_44 {w y : Prop} {g : g_S} {n : NS} {m : YS} (hy : y) {xv1 : Int32} {v1 : Int} (ev1 : xv1 = Int32.ofInt v1) (rv1 : inR v1) {xv2 : Int32} {v2 : Int} (ev2 : xv2 = Int32.ofInt v2) (rv2 : inR v2) (hR : RC w y g n m) : Rf (fun a b => RC w y a n b) (L_Y_readStyles_44 1838 xv1 xv2 g) (NL_Y_readStyles_44 v1 v2 m) := by
  subst ev1
  subst ev2
  unfold L_Y_readStyles_44 NL_Y_readStyles_44
  refine rf_it (I := (fun a b => RI a.1 b.1 ∧ RC w y a.2 n b.2)) (fun s t h => ?_) ⟨⟨rfl, rv2⟩, hR⟩
  exact fb_Y_readStyles_44 hy rfl rv1 h.1.1 h.1.2 h.2
theorem NL_Y_readStyles_44_eq (v1 : Int) (v2 : Int) (m : YS) : NL_Y_readStyles_44 v1 v2 m = itc (nb_Y_readStyles_44 v1 v2 m) (fun s => NL_Y_readStyles_44 v1 s.1 s.2) := it_eq2 (fun s : Int × YS => nb_Y_readStyles_44 v1 s.1 s.2) (v2, m)
noncomputable def nk_Y_readStyles_88 (v1 : Int) (m : YS) : Option ((Int × YS) ⊕ (YS)) :=
  (N_Y_after v1 0 m).bind fun z2 =>
  some (.inl (z2, m))
theorem fk_Y_readStyles_88 {w y : Prop} {g : g_S} {n : NS} {m : YS} (hy : y) {xv1 : Int32} {v1 : Int} (ev1 : xv1 = Int32.ofInt v1) (rv1 : inR v1) (hR : RC w y g n m) : Rf (RS (fun a b => RI a.1 b.1 ∧ RC w y a.2 n b.2) (fun a b => RC w y a n b)) (k_Y_readStyles_88 1838 xv1 g) (nk_Y_readStyles_88 v1 m) := by
  subst ev1
  unfold k_Y_readStyles_88 nk_Y_readStyles_88
  refine v_c (y_gt hR hy) ?_
  refine rf_bind (f_Y_after hy rfl rv1 (e_n 0) (show inR 0 by decide) hR) (fun a4 z2 h => ?_)
  obtain ⟨rfl, r3⟩ := h
  exact rf_ok (by exact ⟨⟨rfl, r3⟩, hR⟩)
noncomputable def nb_Y_readStyles_7 (v1 : Int) (m : YS) : Option ((Int × YS) ⊕ (YS)) :=
  if v1 = (-1) then
    some (.inr m)
  else
    ix v1 120 <|
    if (m 46 v1) = 17 then
      ix v1 120 <|
      ix (m 49 v1) 120 <|
      if (m 46 (m 49 v1)) = 15 then
        (NL_Y_readStyles_44 v1 0 m).bind <| fun m13 =>
        ix v1 120 <|
        (N_Y_readSheet (m13 62 v1) m13).bind fun m20 =>
        nk_Y_readStyles_88 v1 m20
      else
        nk_Y_readStyles_88 v1 m
    else
      nk_Y_readStyles_88 v1 m
theorem fb_Y_readStyles_7 {w y : Prop} {g : g_S} {n : NS} {m : YS} (hy : y) {xv1 : Int32} {v1 : Int} (ev1 : xv1 = Int32.ofInt v1) (rv1 : inR v1) (hR : RC w y g n m) : Rf (RS (fun a b => RI a.1 b.1 ∧ RC w y a.2 n b.2) (fun a b => RC w y a n b)) (b_Y_readStyles_7 1838 xv1 g) (nb_Y_readStyles_7 v1 m) := by
  subst ev1
  unfold b_Y_readStyles_7 nb_Y_readStyles_7
  refine rf_eq rfl (e_m 1) rv1 (show inR (-1) by decide) ?_ ?_
  · exact rf_ok (by exact hR)
  · refine y_Q hR hy ya46.1 (by decide) ?_
    refine y_aI hR hy ya46 yl46 rfl rv1 (fun h3 h4 => ?_)
    refine rf_eq rfl (e_n 17) h4 (show inR 17 by decide) ?_ ?_
    · refine y_Q hR hy ya46.1 (by decide) ?_
      refine y_Q hR hy ya49.1 (by decide) ?_
      refine y_aI hR hy ya49 yl49 rfl rv1 (fun h8 h9 => ?_)
      refine y_aI hR hy ya46 yl46 rfl h9 (fun h10 h11 => ?_)
      refine rf_eq rfl (e_n 15) h11 (show inR 15 by decide) ?_ ?_
      · refine rf_bind (fL_Y_readStyles_44 hy rfl rv1 (e_n 0) (show inR 0 by decide) hR) (fun a14 m13 h => ?_)
        have hR15 : RC w y a14 n m13 := h
        refine y_Q hR15 hy ya62.1 (by decide) ?_
        refine y_aI hR15 hy ya62 yl62 rfl rv1 (fun h17 h18 => ?_)
        refine v_c (y_gt hR15 hy) ?_
        refine rf_bind (f_Y_readSheet hy rfl h18 hR15) (fun g22 m20 hR21 => ?_)
        exact fk_Y_readStyles_88 hy rfl rv1 hR21
      · exact fk_Y_readStyles_88 hy rfl rv1 hR
    · exact fk_Y_readStyles_88 hy rfl rv1 hR
noncomputable def NL_Y_readStyles_7 (v1 : Int) (m : YS) : Option (YS) :=
  it (fun s : Int × YS => nb_Y_readStyles_7 s.1 s.2) (v1, m)
theorem fL_Y_readStyles_7 {w y : Prop} {g : g_S} {n : NS} {m : YS} (hy : y) {xv1 : Int32} {v1 : Int} (ev1 : xv1 = Int32.ofInt v1) (rv1 : inR v1) (hR : RC w y g n m) : Rf (fun a b => RC w y a n b) (L_Y_readStyles_7 1838 xv1 g) (NL_Y_readStyles_7 v1 m) := by
  subst ev1
  unfold L_Y_readStyles_7 NL_Y_readStyles_7
  refine rf_it (I := (fun a b => RI a.1 b.1 ∧ RC w y a.2 n b.2)) (fun s t h => ?_) ⟨⟨rfl, rv1⟩, hR⟩
  exact fb_Y_readStyles_7 hy h.1.1 h.1.2 h.2
theorem NL_Y_readStyles_7_eq (v1 : Int) (m : YS) : NL_Y_readStyles_7 v1 m = itc (nb_Y_readStyles_7 v1 m) (fun s => NL_Y_readStyles_7 s.1 s.2) := it_eq2 (fun s : Int × YS => nb_Y_readStyles_7 s.1 s.2) (v1, m)
noncomputable def N_Y_readStyles (m : YS) : Option (YS) :=
  st (yw m 89 0 0) fun m2 =>
  (NL_Y_readStyles_7 0 m2).bind <| fun m5 =>
  some m5
theorem f_Y_readStyles {w y : Prop} {g : g_S} {n : NS} {m : YS} (hy : y) (hR : RC w y g n m) : Rf (fun a b => RC w y a n b) (M_Y_readStyles 1838 g) (N_Y_readStyles m) := by
  unfold M_Y_readStyles N_Y_readStyles
  refine y_pI hR hy yk89 ⟨yt89, yz89⟩ (e_n 0) (show inR 0 by decide) (fun g4 m2 hR3 => ?_)
  refine rf_bind (fL_Y_readStyles_7 hy (e_n 0) (show inR 0 by decide) hR3) (fun a6 m5 h => ?_)
  have hR7 : RC w y a6 n m5 := h
  exact rf_ok (by exact hR7)
noncomputable def N_Y_of (v1 : Int) (v2 : Int) (m : YS) : Option (Int) :=
  ck (11 * v1) <|
  ck ((11 * v1) + v2) <|
  ix ((11 * v1) + v2) 1320 <|
  some (m 105 ((11 * v1) + v2))
theorem f_Y_of {w y : Prop} {g : g_S} {n : NS} {m : YS} (hy : y) {xv1 : Int32} {v1 : Int} (ev1 : xv1 = Int32.ofInt v1) (rv1 : inR v1) {xv2 : Int32} {v2 : Int} (ev2 : xv2 = Int32.ofInt v2) (rv2 : inR v2) (hR : RC w y g n m) : Rf (fun a b => RI a b) (M_Y_of 1838 xv1 xv2 g) (N_Y_of v1 v2 m) := by
  subst ev1
  subst ev2
  unfold M_Y_of N_Y_of
  refine y_Q hR hy ya105.1 (by decide) ?_
  refine rf_ck (fun h2 => ?_)
  refine rf_ck (fun h3 => ?_)
  refine y_aI hR hy ya105 yl105 (e_add (e_mul (e_n 11) rfl) rfl) h3 (fun h4 h5 => ?_)
  exact rf_ok (by exact ⟨rfl, h5⟩)
noncomputable def N_Y_first (v1 : Int) (v2 : Int) (m : YS) : Option (Int) :=
  ix v1 120 <|
  if v2 = 0 then
    if (m 46 v1) = 15 then
      some 2
    else
      (N_Y_isBlockTag (m 46 v1) m).bind fun z8 =>
      if z8 = 0 then
        some 1
      else
        some 0
  else if v2 = 1 then
    if v1 = 0 then
      some 63
    else
      ix v1 120 <|
      (N_Y_of (m 49 v1) 1 m).bind fun z20 =>
      some z20
  else if v2 = 2 then
    some (-1)
  else if v2 = 3 then
    if (m 46 v1) = 1 then
      some 2
    else
      if (m 46 v1) = 2 then
        some 2
      else
        if (m 46 v1) = 3 then
          some 2
        else
          some 0
  else if v2 = 4 then
    if (m 46 v1) = 3 then
      some 4
    else
      if (m 46 v1) = 14 then
        some 1
      else
        some 0
  else if v2 = 5 then
    if (m 46 v1) = 14 then
      some 1
    else
      if (m 46 v1) = 13 then
        some 1
      else
        if (m 46 v1) = 11 then
          some 1
        else
          some 0
  else if v2 = 6 then
    some (-1)
  else if v2 = 7 then
    some (-1)
  else if v2 = 8 then
    if (m 46 v1) = 2 then
      some 2
    else
      if v1 = 0 then
        some 1
      else
        ix v1 120 <|
        (N_Y_of (m 49 v1) 8 m).bind fun z54 =>
        some z54
  else if v2 = 9 then
    if v1 = 0 then
      some 0
    else
      ix v1 120 <|
      (N_Y_of (m 49 v1) 9 m).bind fun z64 =>
      some z64
  else
    some 0
theorem f_Y_first {w y : Prop} {g : g_S} {n : NS} {m : YS} (hy : y) {xv1 : Int32} {v1 : Int} (ev1 : xv1 = Int32.ofInt v1) (rv1 : inR v1) {xv2 : Int32} {v2 : Int} (ev2 : xv2 = Int32.ofInt v2) (rv2 : inR v2) (hR : RC w y g n m) : Rf (fun a b => RI a b) (M_Y_first 1838 xv1 xv2 g) (N_Y_first v1 v2 m) := by
  subst ev1
  subst ev2
  unfold M_Y_first N_Y_first
  refine y_Q hR hy ya46.1 (by decide) ?_
  refine y_aI hR hy ya46 yl46 rfl rv1 (fun h2 h3 => ?_)
  refine rf_eq rfl (e_n 0) rv2 (show inR 0 by decide) ?_ ?_
  · refine rf_eq rfl (e_n 15) h3 (show inR 15 by decide) ?_ ?_
    · exact rf_ok (by exact ⟨(e_n 2), (show inR 2 by decide)⟩)
    · refine rf_bind (f_Y_isBlockTag hy rfl h3 hR) (fun a10 z8 h => ?_)
      obtain ⟨rfl, r9⟩ := h
      refine rf_eq rfl (e_n 0) (inZ.r r9) (show inR 0 by decide) ?_ ?_
      · exact rf_ok (by exact ⟨(e_n 1), (show inR 1 by decide)⟩)
      · exact rf_ok (by exact ⟨(e_n 0), (show inR 0 by decide)⟩)
  refine rf_eq rfl (e_n 1) rv2 (show inR 1 by decide) ?_ ?_
  · refine rf_eq rfl (e_n 0) rv1 (show inR 0 by decide) ?_ ?_
    · exact rf_ok (by exact ⟨(e_n 63), (show inR 63 by decide)⟩)
    · refine y_Q hR hy ya49.1 (by decide) ?_
      refine y_aI hR hy ya49 yl49 rfl rv1 (fun h17 h18 => ?_)
      refine v_c (y_gt hR hy) ?_
      refine rf_bind (f_Y_of hy rfl h18 (e_n 1) (show inR 1 by decide) hR) (fun a22 z20 h => ?_)
      obtain ⟨rfl, r21⟩ := h
      exact rf_ok (by exact ⟨rfl, r21⟩)
  refine rf_eq rfl (e_n 2) rv2 (show inR 2 by decide) ?_ ?_
  · exact rf_ok (by exact ⟨(e_m 1), (show inR (-1) by decide)⟩)
  refine rf_eq rfl (e_n 3) rv2 (show inR 3 by decide) ?_ ?_
  · refine rf_eq rfl (e_n 1) h3 (show inR 1 by decide) ?_ ?_
    · exact rf_ok (by exact ⟨(e_n 2), (show inR 2 by decide)⟩)
    · refine rf_eq rfl (e_n 2) h3 (show inR 2 by decide) ?_ ?_
      · exact rf_ok (by exact ⟨(e_n 2), (show inR 2 by decide)⟩)
      · refine rf_eq rfl (e_n 3) h3 (show inR 3 by decide) ?_ ?_
        · exact rf_ok (by exact ⟨(e_n 2), (show inR 2 by decide)⟩)
        · exact rf_ok (by exact ⟨(e_n 0), (show inR 0 by decide)⟩)
  refine rf_eq rfl (e_n 4) rv2 (show inR 4 by decide) ?_ ?_
  · refine rf_eq rfl (e_n 3) h3 (show inR 3 by decide) ?_ ?_
    · exact rf_ok (by exact ⟨(e_n 4), (show inR 4 by decide)⟩)
    · refine rf_eq rfl (e_n 14) h3 (show inR 14 by decide) ?_ ?_
      · exact rf_ok (by exact ⟨(e_n 1), (show inR 1 by decide)⟩)
      · exact rf_ok (by exact ⟨(e_n 0), (show inR 0 by decide)⟩)
  refine rf_eq rfl (e_n 5) rv2 (show inR 5 by decide) ?_ ?_
  · refine rf_eq rfl (e_n 14) h3 (show inR 14 by decide) ?_ ?_
    · exact rf_ok (by exact ⟨(e_n 1), (show inR 1 by decide)⟩)
    · refine rf_eq rfl (e_n 13) h3 (show inR 13 by decide) ?_ ?_
      · exact rf_ok (by exact ⟨(e_n 1), (show inR 1 by decide)⟩)
      · refine rf_eq rfl (e_n 11) h3 (show inR 11 by decide) ?_ ?_
        · exact rf_ok (by exact ⟨(e_n 1), (show inR 1 by decide)⟩)
        · exact rf_ok (by exact ⟨(e_n 0), (show inR 0 by decide)⟩)
  refine rf_eq rfl (e_n 6) rv2 (show inR 6 by decide) ?_ ?_
  · exact rf_ok (by exact ⟨(e_m 1), (show inR (-1) by decide)⟩)
  refine rf_eq rfl (e_n 7) rv2 (show inR 7 by decide) ?_ ?_
  · exact rf_ok (by exact ⟨(e_m 1), (show inR (-1) by decide)⟩)
  refine rf_eq rfl (e_n 8) rv2 (show inR 8 by decide) ?_ ?_
  · refine rf_eq rfl (e_n 2) h3 (show inR 2 by decide) ?_ ?_
    · exact rf_ok (by exact ⟨(e_n 2), (show inR 2 by decide)⟩)
    · refine rf_eq rfl (e_n 0) rv1 (show inR 0 by decide) ?_ ?_
      · exact rf_ok (by exact ⟨(e_n 1), (show inR 1 by decide)⟩)
      · refine y_Q hR hy ya49.1 (by decide) ?_
        refine y_aI hR hy ya49 yl49 rfl rv1 (fun h51 h52 => ?_)
        refine v_c (y_gt hR hy) ?_
        refine rf_bind (f_Y_of hy rfl h52 (e_n 8) (show inR 8 by decide) hR) (fun a56 z54 h => ?_)
        obtain ⟨rfl, r55⟩ := h
        exact rf_ok (by exact ⟨rfl, r55⟩)
  refine rf_eq rfl (e_n 9) rv2 (show inR 9 by decide) ?_ ?_
  · refine rf_eq rfl (e_n 0) rv1 (show inR 0 by decide) ?_ ?_
    · exact rf_ok (by exact ⟨(e_n 0), (show inR 0 by decide)⟩)
    · refine y_Q hR hy ya49.1 (by decide) ?_
      refine y_aI hR hy ya49 yl49 rfl rv1 (fun h61 h62 => ?_)
      refine v_c (y_gt hR hy) ?_
      refine rf_bind (f_Y_of hy rfl h62 (e_n 9) (show inR 9 by decide) hR) (fun a66 z64 h => ?_)
      obtain ⟨rfl, r65⟩ := h
      exact rf_ok (by exact ⟨rfl, r65⟩)
  exact rf_ok (by exact ⟨(e_n 0), (show inR 0 by decide)⟩)
noncomputable def N_Y_isPieceTag (v1 : Int) (m : YS) : Option (Int) :=
  if v1 = 12 then
    some 1
  else
    if v1 = 13 then
      some 1
    else
      if v1 = 14 then
        some 1
      else
        some 0
theorem f_Y_isPieceTag {w y : Prop} {g : g_S} {n : NS} {m : YS} (hy : y) {xv1 : Int32} {v1 : Int} (ev1 : xv1 = Int32.ofInt v1) (rv1 : inR v1) (hR : RC w y g n m) : Rf (fun a b => RZ a b) (M_Y_isPieceTag 1838 xv1 g) (N_Y_isPieceTag v1 m) := by
  subst ev1
  unfold M_Y_isPieceTag N_Y_isPieceTag
  refine rf_eq rfl (e_n 12) rv1 (show inR 12 by decide) ?_ ?_
  · exact rf_ok (by exact ⟨(e_n 1), (.inr rfl)⟩)
  · refine rf_eq rfl (e_n 13) rv1 (show inR 13 by decide) ?_ ?_
    · exact rf_ok (by exact ⟨(e_n 1), (.inr rfl)⟩)
    · refine rf_eq rfl (e_n 14) rv1 (show inR 14 by decide) ?_ ?_
      · exact rf_ok (by exact ⟨(e_n 1), (.inr rfl)⟩)
      · exact rf_ok (by exact ⟨(e_n 0), (.inl rfl)⟩)
