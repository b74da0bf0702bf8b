/-! methods on numbers, group 6 -/
noncomputable def nb_Y_refer_80 (v1 : Nat) (v2 : Int) (v3 : Int) (v4 : Int) (v5 : Int) (v6 : Int) (v7 : Int) (m : YS) : Option ((Int × YS) ⊕ (YS)) :=
  if v7 < v6 then
    ix v7 (yLn v1 : Int) <|
    (N_Y_put 0 (m v1 v7) m).bind fun m5 =>
    ck (v7 + 1) <|
    some (.inl (v7 + 1, m5))
  else
    some (.inr m)
theorem fb_Y_refer_80 {w y : Prop} {g : g_S} {n : NS} {m : YS} (hy : y) {xv1 : Nat} {v1 : Nat} (ev1 : xv1 = yAd v1) (rv1 : v1 < 186 ∧ yT v1 = 1) {xv2 : Int32} {v2 : Int} (ev2 : xv2 = Int32.ofInt v2) (rv2 : inR v2) {xv3 : Int32} {v3 : Int} (ev3 : xv3 = Int32.ofInt v3) (rv3 : inR v3) {xv4 : Int32} {v4 : Int} (ev4 : xv4 = Int32.ofInt v4) (rv4 : inR v4) {xv5 : Int32} {v5 : Int} (ev5 : xv5 = Int32.ofInt v5) (rv5 : inR v5) {xv6 : Int32} {v6 : Int} (ev6 : xv6 = Int32.ofInt v6) (rv6 : inR v6) {xv7 : Int32} {v7 : Int} (ev7 : xv7 = Int32.ofInt v7) (rv7 : inR v7) (hR : RC w y g n m) : Rf (RS (fun a b => RI a.1 b.1 ∧ RC w y a.2 n b.2) (fun a b => RC w y a n b)) (b_Y_refer_80 1838 xv1 xv2 xv3 xv4 xv5 xv6 xv7 g) (nb_Y_refer_80 v1 v2 v3 v4 v5 v6 v7 m) := by
  subst ev1
  subst ev2
  subst ev3
  subst ev4
  subst ev5
  subst ev6
  subst ev7
  unfold b_Y_refer_80 nb_Y_refer_80
  refine rf_lt rfl rfl rv7 rv6 ?_ ?_
  · refine y_aB hR hy rv1 rfl rfl rv7 (fun h2 h3 => ?_)
    refine v_c (y_gt hR hy) ?_
    refine rf_bind (f_Y_put hy (e_n 0) (show inR 0 by decide) rfl (inB.r h3) hR) (fun g7 m5 hR6 => ?_)
    refine rf_ck (fun h8 => ?_)
    exact rf_ok (by exact ⟨⟨(e_add rfl (e_n 1)), h8⟩, hR6⟩)
  · exact rf_ok (by exact hR)
noncomputable def NL_Y_refer_80 (v1 : Nat) (v2 : Int) (v3 : Int) (v4 : Int) (v5 : Int) (v6 : Int) (v7 : Int) (m : YS) : Option (YS) :=
  it (fun s : Int × YS => nb_Y_refer_80 v1 v2 v3 v4 v5 v6 s.1 s.2) (v7, m)
theorem fL_Y_refer_80 {w y : Prop} {g : g_S} {n : NS} {m : YS} (hy : y) {xv1 : Nat} {v1 : Nat} (ev1 : xv1 = yAd v1) (rv1 : v1 < 186 ∧ yT v1 = 1) {xv2 : Int32} {v2 : Int} (ev2 : xv2 = Int32.ofInt v2) (rv2 : inR v2) {xv3 : Int32} {v3 : Int} (ev3 : xv3 = Int32.ofInt v3) (rv3 : inR v3) {xv4 : Int32} {v4 : Int} (ev4 : xv4 = Int32.ofInt v4) (rv4 : inR v4) {xv5 : Int32} {v5 : Int} (ev5 : xv5 = Int32.ofInt v5) (rv5 : inR v5) {xv6 : Int32} {v6 : Int} (ev6 : xv6 = Int32.ofInt v6) (rv6 : inR v6) {xv7 : Int32} {v7 : Int} (ev7 : xv7 = Int32.ofInt v7) (rv7 : inR v7) (hR : RC w y g n m) : Rf (fun a b => RC w y a n b) (L_Y_refer_80 1838 xv1 xv2 xv3 xv4 xv5 xv6 xv7 g) (NL_Y_refer_80 v1 v2 v3 v4 v5 v6 v7 m) := by
  subst ev1
  subst ev2
  subst ev3
  subst ev4
  subst ev5
  subst ev6
  subst ev7
  unfold L_Y_refer_80 NL_Y_refer_80
  refine rf_it (I := (fun a b => RI a.1 b.1 ∧ RC w y a.2 n b.2)) (fun s t h => ?_) ⟨⟨rfl, rv7⟩, hR⟩
  exact fb_Y_refer_80 hy rfl rv1 rfl rv2 rfl rv3 rfl rv4 rfl rv5 rfl rv6 h.1.1 h.1.2 h.2
theorem NL_Y_refer_80_eq (v1 : Nat) (v2 : Int) (v3 : Int) (v4 : Int) (v5 : Int) (v6 : Int) (v7 : Int) (m : YS) : NL_Y_refer_80 v1 v2 v3 v4 v5 v6 v7 m = itc (nb_Y_refer_80 v1 v2 v3 v4 v5 v6 v7 m) (fun s => NL_Y_refer_80 v1 v2 v3 v4 v5 v6 s.1 s.2) := it_eq2 (fun s : Int × YS => nb_Y_refer_80 v1 v2 v3 v4 v5 v6 s.1 s.2) (v7, m)
noncomputable def nb_Y_refer_149 (v1 : Nat) (v2 : Int) (v3 : Int) (v4 : Int) (v5 : Int) (v6 : Int) (v7 : Int) (m : YS) : Option ((Int × YS) ⊕ (YS)) :=
  if v7 < v6 then
    ck (v4 * 150) <|
    ck ((v4 * 150) + v7) <|
    ix ((v4 * 150) + v7) 9900 <|
    (N_Y_put 0 (m 6 ((v4 * 150) + v7)) m).bind fun m8 =>
    ck (v7 + 1) <|
    some (.inl (v7 + 1, m8))
  else
    some (.inr m)
theorem fb_Y_refer_149 {w y : Prop} {g : g_S} {n : NS} {m : YS} (hy : y) {xv1 : Nat} {v1 : Nat} (ev1 : xv1 = yAd v1) (rv1 : v1 < 186 ∧ yT v1 = 1) {xv2 : Int32} {v2 : Int} (ev2 : xv2 = Int32.ofInt v2) (rv2 : inR v2) {xv3 : Int32} {v3 : Int} (ev3 : xv3 = Int32.ofInt v3) (rv3 : inR v3) {xv4 : Int32} {v4 : Int} (ev4 : xv4 = Int32.ofInt v4) (rv4 : inR v4) {xv5 : Int32} {v5 : Int} (ev5 : xv5 = Int32.ofInt v5) (rv5 : inR v5) {xv6 : Int32} {v6 : Int} (ev6 : xv6 = Int32.ofInt v6) (rv6 : inR v6) {xv7 : Int32} {v7 : Int} (ev7 : xv7 = Int32.ofInt v7) (rv7 : inR v7) (hR : RC w y g n m) : Rf (RS (fun a b => RI a.1 b.1 ∧ RC w y a.2 n b.2) (fun a b => RC w y a n b)) (b_Y_refer_149 1838 xv1 xv2 xv3 xv4 xv5 xv6 xv7 g) (nb_Y_refer_149 v1 v2 v3 v4 v5 v6 v7 m) := by
  subst ev1
  subst ev2
  subst ev3
  subst ev4
  subst ev5
  subst ev6
  subst ev7
  unfold b_Y_refer_149 nb_Y_refer_149
  refine rf_lt rfl rfl rv7 rv6 ?_ ?_
  · refine y_Q hR hy ya6.1 (by decide) ?_
    refine rf_ck (fun h3 => ?_)
    refine rf_ck (fun h4 => ?_)
    refine y_aB hR hy ya6 yl6 (e_add (e_mul rfl (e_n 150)) rfl) h4 (fun h5 h6 => ?_)
    refine v_c (y_gt hR hy) ?_
    refine rf_bind (f_Y_put hy (e_n 0) (show inR 0 by decide) rfl (inB.r h6) hR) (fun g10 m8 hR9 => ?_)
    refine rf_ck (fun h11 => ?_)
    exact rf_ok (by exact ⟨⟨(e_add rfl (e_n 1)), h11⟩, hR9⟩)
  · exact rf_ok (by exact hR)
noncomputable def NL_Y_refer_149 (v1 : Nat) (v2 : Int) (v3 : Int) (v4 : Int) (v5 : Int) (v6 : Int) (v7 : Int) (m : YS) : Option (YS) :=
  it (fun s : Int × YS => nb_Y_refer_149 v1 v2 v3 v4 v5 v6 s.1 s.2) (v7, m)
theorem fL_Y_refer_149 {w y : Prop} {g : g_S} {n : NS} {m : YS} (hy : y) {xv1 : Nat} {v1 : Nat} (ev1 : xv1 = yAd v1) (rv1 : v1 < 186 ∧ yT v1 = 1) {xv2 : Int32} {v2 : Int} (ev2 : xv2 = Int32.ofInt v2) (rv2 : inR v2) {xv3 : Int32} {v3 : Int} (ev3 : xv3 = Int32.ofInt v3) (rv3 : inR v3) {xv4 : Int32} {v4 : Int} (ev4 : xv4 = Int32.ofInt v4) (rv4 : inR v4) {xv5 : Int32} {v5 : Int} (ev5 : xv5 = Int32.ofInt v5) (rv5 : inR v5) {xv6 : Int32} {v6 : Int} (ev6 : xv6 = Int32.ofInt v6) (rv6 : inR v6) {xv7 : Int32} {v7 : Int} (ev7 : xv7 = Int32.ofInt v7) (rv7 : inR v7) (hR : RC w y g n m) : Rf (fun a b => RC w y a n b) (L_Y_refer_149 1838 xv1 xv2 xv3 xv4 xv5 xv6 xv7 g) (NL_Y_refer_149 v1 v2 v3 v4 v5 v6 v7 m) := by
  subst ev1
  subst ev2
  subst ev3
  subst ev4
  subst ev5
  subst ev6
  subst ev7
  unfold L_Y_refer_149 NL_Y_refer_149
  refine rf_it (I := (fun a b => RI a.1 b.1 ∧ RC w y a.2 n b.2)) (fun s t h => ?_) ⟨⟨rfl, rv7⟩, hR⟩
  exact fb_Y_refer_149 hy rfl rv1 rfl rv2 rfl rv3 rfl rv4 rfl rv5 rfl rv6 h.1.1 h.1.2 h.2
theorem NL_Y_refer_149_eq (v1 : Nat) (v2 : Int) (v3 : Int) (v4 : Int) (v5 : Int) (v6 : Int) (v7 : Int) (m : YS) : NL_Y_refer_149 v1 v2 v3 v4 v5 v6 v7 m = itc (nb_Y_refer_149 v1 v2 v3 v4 v5 v6 v7 m) (fun s => NL_Y_refer_149 v1 v2 v3 v4 v5 v6 s.1 s.2) := it_eq2 (fun s : Int × YS => nb_Y_refer_149 v1 v2 v3 v4 v5 v6 s.1 s.2) (v7, m)
noncomputable def nb_Y_refer_310 (v1 : Nat) (v3 : Int) (v4 : Int) (v5 : Int) (v6 : Int) (v7 : Int) (m : YS) : Option ((Int × YS) ⊕ (YS)) :=
  ix v6 2100 <|
  if v7 < (m 11 v6) then
    ix v6 2100 <|
    ck ((m 10 v6) + v7) <|
    ix ((m 10 v6) + v7) 2200 <|
    (N_Y_put 0 (m 9 ((m 10 v6) + v7)) m).bind fun m13 =>
    ck (v7 + 1) <|
    some (.inl (v7 + 1, m13))
  else
    some (.inr m)
theorem fb_Y_refer_310 {w y : Prop} {g : g_S} {n : NS} {m : YS} (hy : y) {xv1 : Nat} {v1 : Nat} (ev1 : xv1 = yAd v1) (rv1 : v1 < 186 ∧ yT v1 = 1) {xv3 : Int32} {v3 : Int} (ev3 : xv3 = Int32.ofInt v3) (rv3 : inR v3) {xv4 : Int32} {v4 : Int} (ev4 : xv4 = Int32.ofInt v4) (rv4 : inR v4) {xv5 : Int32} {v5 : Int} (ev5 : xv5 = Int32.ofInt v5) (rv5 : inR v5) {xv6 : Int32} {v6 : Int} (ev6 : xv6 = Int32.ofInt v6) (rv6 : inR v6) {xv7 : Int32} {v7 : Int} (ev7 : xv7 = Int32.ofInt v7) (rv7 : inR v7) (hR : RC w y g n m) : Rf (RS (fun a b => RI a.1 b.1 ∧ RC w y a.2 n b.2) (fun a b => RC w y a n b)) (b_Y_refer_310 1838 xv1 xv3 xv4 xv5 xv6 xv7 g) (nb_Y_refer_310 v1 v3 v4 v5 v6 v7 m) := by
  subst ev1
  subst ev3
  subst ev4
  subst ev5
  subst ev6
  subst ev7
  unfold b_Y_refer_310 nb_Y_refer_310
  refine y_Q hR hy ya11.1 (by decide) ?_
  refine y_aI hR hy ya11 yl11 rfl rv6 (fun h2 h3 => ?_)
  refine rf_lt rfl rfl rv7 h3 ?_ ?_
  · refine y_Q hR hy ya9.1 (by decide) ?_
    refine y_Q hR hy ya10.1 (by decide) ?_
    refine y_aI hR hy ya10 yl10 rfl rv6 (fun h7 h8 => ?_)
    refine rf_ck (fun h9 => ?_)
    refine y_aB hR hy ya9 yl9 (e_add rfl rfl) h9 (fun h10 h11 => ?_)
    refine v_c (y_gt hR hy) ?_
    refine rf_bind (f_Y_put hy (e_n 0) (show inR 0 by decide) rfl (inB.r h11) hR) (fun g15 m13 hR14 => ?_)
    refine rf_ck (fun h16 => ?_)
    exact rf_ok (by exact ⟨⟨(e_add rfl (e_n 1)), h16⟩, hR14⟩)
  · exact rf_ok (by exact hR)
noncomputable def NL_Y_refer_310 (v1 : Nat) (v3 : Int) (v4 : Int) (v5 : Int) (v6 : Int) (v7 : Int) (m : YS) : Option (YS) :=
  it (fun s : Int × YS => nb_Y_refer_310 v1 v3 v4 v5 v6 s.1 s.2) (v7, m)
theorem fL_Y_refer_310 {w y : Prop} {g : g_S} {n : NS} {m : YS} (hy : y) {xv1 : Nat} {v1 : Nat} (ev1 : xv1 = yAd v1) (rv1 : v1 < 186 ∧ yT v1 = 1) {xv3 : Int32} {v3 : Int} (ev3 : xv3 = Int32.ofInt v3) (rv3 : inR v3) {xv4 : Int32} {v4 : Int} (ev4 : xv4 = Int32.ofInt v4) (rv4 : inR v4) {xv5 : Int32} {v5 : Int} (ev5 : xv5 = Int32.ofInt v5) (rv5 : inR v5) {xv6 : Int32} {v6 : Int} (ev6 : xv6 = Int32.ofInt v6) (rv6 : inR v6) {xv7 : Int32} {v7 : Int} (ev7 : xv7 = Int32.ofInt v7) (rv7 : inR v7) (hR : RC w y g n m) : Rf (fun a b => RC w y a n b) (L_Y_refer_310 1838 xv1 xv3 xv4 xv5 xv6 xv7 g) (NL_Y_refer_310 v1 v3 v4 v5 v6 v7 m) := by
  subst ev1
  subst ev3
  subst ev4
  subst ev5
  subst ev6
  subst ev7
  unfold L_Y_refer_310 NL_Y_refer_310
  refine rf_it (I := (fun a b => RI a.1 b.1 ∧ RC w y a.2 n b.2)) (fun s t h => ?_) ⟨⟨rfl, rv7⟩, hR⟩
  exact fb_Y_refer_310 hy rfl rv1 rfl rv3 rfl rv4 rfl rv5 rfl rv6 h.1.1 h.1.2 h.2
theorem NL_Y_refer_310_eq (v1 : Nat) (v3 : Int) (v4 : Int) (v5 : Int) (v6 : Int) (v7 : Int) (m : YS) : NL_Y_refer_310 v1 v3 v4 v5 v6 v7 m = itc (nb_Y_refer_310 v1 v3 v4 v5 v6 v7 m) (fun s => NL_Y_refer_310 v1 v3 v4 v5 v6 s.1 s.2) := it_eq2 (fun s : Int × YS => nb_Y_refer_310 v1 v3 v4 v5 v6 s.1 s.2) (v7, m)
noncomputable def nb_Y_refer_291 (v1 : Nat) (v3 : Int) (v4 : Int) (v5 : Int) (v6 : Int) (m : YS) : Option ((Int × YS) ⊕ (YS)) :=
  if v6 < (m 12 0) then
    (N_Y_put 0 47 m).bind fun m4 =>
    (NL_Y_refer_310 v1 v3 v4 v5 v6 0 m4).bind <| fun m7 =>
    ck (v6 + 1) <|
    some (.inl (v6 + 1, m7))
  else
    some (.inr m)
theorem fb_Y_refer_291 {w y : Prop} {g : g_S} {n : NS} {m : YS} (hy : y) {xv1 : Nat} {v1 : Nat} (ev1 : xv1 = yAd v1) (rv1 : v1 < 186 ∧ yT v1 = 1) {xv3 : Int32} {v3 : Int} (ev3 : xv3 = Int32.ofInt v3) (rv3 : inR v3) {xv4 : Int32} {v4 : Int} (ev4 : xv4 = Int32.ofInt v4) (rv4 : inR v4) {xv5 : Int32} {v5 : Int} (ev5 : xv5 = Int32.ofInt v5) (rv5 : inR v5) {xv6 : Int32} {v6 : Int} (ev6 : xv6 = Int32.ofInt v6) (rv6 : inR v6) (hR : RC w y g n m) : Rf (RS (fun a b => RI a.1 b.1 ∧ RC w y a.2 n b.2) (fun a b => RC w y a n b)) (b_Y_refer_291 1838 xv1 xv3 xv4 xv5 xv6 g) (nb_Y_refer_291 v1 v3 v4 v5 v6 m) := by
  subst ev1
  subst ev3
  subst ev4
  subst ev5
  subst ev6
  unfold b_Y_refer_291 nb_Y_refer_291
  refine y_I hR hy yk12 yt12 (fun h1 => ?_)
  refine rf_lt rfl rfl rv6 h1 ?_ ?_
  · refine v_c (y_gt hR hy) ?_
    refine rf_bind (f_Y_put hy (e_n 0) (show inR 0 by decide) (e_n 47) (show inR 47 by decide) hR) (fun g6 m4 hR5 => ?_)
    refine rf_bind (fL_Y_refer_310 hy rfl rv1 rfl rv3 rfl rv4 rfl rv5 rfl rv6 (e_n 0) (show inR 0 by decide) hR5) (fun a8 m7 h => ?_)
    have hR9 : RC w y a8 n m7 := h
    refine rf_ck (fun h10 => ?_)
    exact rf_ok (by exact ⟨⟨(e_add rfl (e_n 1)), h10⟩, hR9⟩)
  · exact rf_ok (by exact hR)
noncomputable def NL_Y_refer_291 (v1 : Nat) (v3 : Int) (v4 : Int) (v5 : Int) (v6 : Int) (m : YS) : Option (YS) :=
  it (fun s : Int × YS => nb_Y_refer_291 v1 v3 v4 v5 s.1 s.2) (v6, m)
theorem fL_Y_refer_291 {w y : Prop} {g : g_S} {n : NS} {m : YS} (hy : y) {xv1 : Nat} {v1 : Nat} (ev1 : xv1 = yAd v1) (rv1 : v1 < 186 ∧ yT v1 = 1) {xv3 : Int32} {v3 : Int} (ev3 : xv3 = Int32.ofInt v3) (rv3 : inR v3) {xv4 : Int32} {v4 : Int} (ev4 : xv4 = Int32.ofInt v4) (rv4 : inR v4) {xv5 : Int32} {v5 : Int} (ev5 : xv5 = Int32.ofInt v5) (rv5 : inR v5) {xv6 : Int32} {v6 : Int} (ev6 : xv6 = Int32.ofInt v6) (rv6 : inR v6) (hR : RC w y g n m) : Rf (fun a b => RC w y a n b) (L_Y_refer_291 1838 xv1 xv3 xv4 xv5 xv6 g) (NL_Y_refer_291 v1 v3 v4 v5 v6 m) := by
  subst ev1
  subst ev3
  subst ev4
  subst ev5
  subst ev6
  unfold L_Y_refer_291 NL_Y_refer_291
  refine rf_it (I := (fun a b => RI a.1 b.1 ∧ RC w y a.2 n b.2)) (fun s t h => ?_) ⟨⟨rfl, rv6⟩, hR⟩
  exact fb_Y_refer_291 hy rfl rv1 rfl rv3 rfl rv4 rfl rv5 h.1.1 h.1.2 h.2
theorem NL_Y_refer_291_eq (v1 : Nat) (v3 : Int) (v4 : Int) (v5 : Int) (v6 : Int) (m : YS) : NL_Y_refer_291 v1 v3 v4 v5 v6 m = itc (nb_Y_refer_291 v1 v3 v4 v5 v6 m) (fun s => NL_Y_refer_291 v1 v3 v4 v5 s.1 s.2) := it_eq2 (fun s : Int × YS => nb_Y_refer_291 v1 v3 v4 v5 s.1 s.2) (v6, m)
noncomputable def nk_Y_refer_277 (v1 : Nat) (v3 : Int) (v4 : Int) (v5 : Int) (m : YS) : Option (Int × YS) :=
  if 6 < (m 12 0) then
    some (0, m)
  else
    (NL_Y_refer_291 v1 v3 v4 v5 0 m).bind <| fun m4 =>
    (N_Y_query v1 v3 v4 v5 m4).bind <| u2 fun z8 m11 =>
    some (z8, m11)
theorem fk_Y_refer_277 {w y : Prop} {g : g_S} {n : NS} {m : YS} (hy : y) {xv1 : Nat} {v1 : Nat} (ev1 : xv1 = yAd v1) (rv1 : v1 < 186 ∧ yT v1 = 1) {xv3 : Int32} {v3 : Int} (ev3 : xv3 = Int32.ofInt v3) (rv3 : inR v3) {xv4 : Int32} {v4 : Int} (ev4 : xv4 = Int32.ofInt v4) (rv4 : inR v4) {xv5 : Int32} {v5 : Int} (ev5 : xv5 = Int32.ofInt v5) (rv5 : inR v5) (hR : RC w y g n m) : Rf (fun a b => RZ a.1 b.1 ∧ RC w y a.2 n b.2) (k_Y_refer_277 1838 xv1 xv3 xv4 xv5 g) (nk_Y_refer_277 v1 v3 v4 v5 m) := by
  subst ev1
  subst ev3
  subst ev4
  subst ev5
  unfold k_Y_refer_277 nk_Y_refer_277
  refine y_I hR hy yk12 yt12 (fun h1 => ?_)
  refine rf_lt (e_n 6) rfl (show inR 6 by decide) h1 ?_ ?_
  · exact rf_ok (by exact ⟨⟨(e_n 0), (.inl rfl)⟩, hR⟩)
  · refine rf_bind (fL_Y_refer_291 hy rfl rv1 rfl rv3 rfl rv4 rfl rv5 (e_n 0) (show inR 0 by decide) hR) (fun a5 m4 h => ?_)
    have hR6 : RC w y a5 n m4 := h
    refine v_c2 (y_gt hR6 hy) ?_
    refine rf_c2 (f_Y_query hy rfl rv1 rfl rv3 rfl rv4 rfl rv5 hR6) (fun a10 g13 b h => ?_)
    obtain ⟨z8, m11⟩ := b
    refine rf_v2 ?_
    obtain ⟨rfl, r9⟩ := (show RZ a10 z8 from h.1)
    have hR12 : RC w y g13 n m11 := h.2
    refine rf_tz rfl r9 ?_
    exact rf_ok (by exact ⟨⟨rfl, r9⟩, hR12⟩)
noncomputable def nk_Y_refer_270 (v1 : Nat) (v2 : Int) (v3 : Int) (v4 : Int) (v5 : Int) (m : YS) : Option (Int × YS) :=
  (N_Y_segment v1 v2 0 m).bind fun m2 =>
  nk_Y_refer_277 v1 v3 v4 v5 m2
theorem fk_Y_refer_270 {w y : Prop} {g : g_S} {n : NS} {m : YS} (hy : y) {xv1 : Nat} {v1 : Nat} (ev1 : xv1 = yAd v1) (rv1 : v1 < 186 ∧ yT v1 = 1) {xv2 : Int32} {v2 : Int} (ev2 : xv2 = Int32.ofInt v2) (rv2 : inR v2) {xv3 : Int32} {v3 : Int} (ev3 : xv3 = Int32.ofInt v3) (rv3 : inR v3) {xv4 : Int32} {v4 : Int} (ev4 : xv4 = Int32.ofInt v4) (rv4 : inR v4) {xv5 : Int32} {v5 : Int} (ev5 : xv5 = Int32.ofInt v5) (rv5 : inR v5) (hR : RC w y g n m) : Rf (fun a b => RZ a.1 b.1 ∧ RC w y a.2 n b.2) (k_Y_refer_270 1838 xv1 xv2 xv3 xv4 xv5 g) (nk_Y_refer_270 v1 v2 v3 v4 v5 m) := by
  subst ev1
  subst ev2
  subst ev3
  subst ev4
  subst ev5
  unfold k_Y_refer_270 nk_Y_refer_270
  refine v_c (y_gt hR hy) ?_
  refine rf_bind (f_Y_segment hy rfl rv1 rfl rv2 (e_n 0) (show inR 0 by decide) hR) (fun g4 m2 hR3 => ?_)
  exact fk_Y_refer_277 hy rfl rv1 rfl rv3 rfl rv4 rfl rv5 hR3
noncomputable def nk_Y_refer_256 (v1 : Nat) (v2 : Int) (v3 : Int) (v4 : Int) (v5 : Int) (m : YS) : Option (Int × YS) :=
  if (m 14 0) = 0 then
    if (m 12 0) = 0 then
      nk_Y_refer_270 v1 v2 v3 v4 v5 m
    else
      nk_Y_refer_277 v1 v3 v4 v5 m
  else
    nk_Y_refer_270 v1 v2 v3 v4 v5 m
theorem fk_Y_refer_256 {w y : Prop} {g : g_S} {n : NS} {m : YS} (hy : y) {xv1 : Nat} {v1 : Nat} (ev1 : xv1 = yAd v1) (rv1 : v1 < 186 ∧ yT v1 = 1) {xv2 : Int32} {v2 : Int} (ev2 : xv2 = Int32.ofInt v2) (rv2 : inR v2) {xv3 : Int32} {v3 : Int} (ev3 : xv3 = Int32.ofInt v3) (rv3 : inR v3) {xv4 : Int32} {v4 : Int} (ev4 : xv4 = Int32.ofInt v4) (rv4 : inR v4) {xv5 : Int32} {v5 : Int} (ev5 : xv5 = Int32.ofInt v5) (rv5 : inR v5) (hR : RC w y g n m) : Rf (fun a b => RZ a.1 b.1 ∧ RC w y a.2 n b.2) (k_Y_refer_256 1838 xv1 xv2 xv3 xv4 xv5 g) (nk_Y_refer_256 v1 v2 v3 v4 v5 m) := by
  subst ev1
  subst ev2
  subst ev3
  subst ev4
  subst ev5
  unfold k_Y_refer_256 nk_Y_refer_256
  refine y_Z hR hy yk14 yt14 yz14 (fun h1 => ?_)
  refine rf_eq rfl (e_n 0) (inZ.r h1) (show inR 0 by decide) ?_ ?_
  · refine y_I hR hy yk12 yt12 (fun h3 => ?_)
    refine rf_eq rfl (e_n 0) h3 (show inR 0 by decide) ?_ ?_
    · exact fk_Y_refer_270 hy rfl rv1 rfl rv2 rfl rv3 rfl rv4 rfl rv5 hR
    · exact fk_Y_refer_277 hy rfl rv1 rfl rv3 rfl rv4 rfl rv5 hR
  · exact fk_Y_refer_270 hy rfl rv1 rfl rv2 rfl rv3 rfl rv4 rfl rv5 hR
noncomputable def nk_Y_refer_246 (v1 : Nat) (v2 : Int) (v3 : Int) (v4 : Int) (m : YS) : Option (Int × YS) :=
  (N_Y_baseSegments v4 1 m).bind fun m2 =>
  nk_Y_refer_256 v1 v2 v3 v4 0 m2
theorem fk_Y_refer_246 {w y : Prop} {g : g_S} {n : NS} {m : YS} (hy : y) {xv1 : Nat} {v1 : Nat} (ev1 : xv1 = yAd v1) (rv1 : v1 < 186 ∧ yT v1 = 1) {xv2 : Int32} {v2 : Int} (ev2 : xv2 = Int32.ofInt v2) (rv2 : inR v2) {xv3 : Int32} {v3 : Int} (ev3 : xv3 = Int32.ofInt v3) (rv3 : inR v3) {xv4 : Int32} {v4 : Int} (ev4 : xv4 = Int32.ofInt v4) (rv4 : inR v4) (hR : RC w y g n m) : Rf (fun a b => RZ a.1 b.1 ∧ RC w y a.2 n b.2) (k_Y_refer_246 1838 xv1 xv2 xv3 xv4 g) (nk_Y_refer_246 v1 v2 v3 v4 m) := by
  subst ev1
  subst ev2
  subst ev3
  subst ev4
  unfold k_Y_refer_246 nk_Y_refer_246
  refine v_c (y_gt hR hy) ?_
  refine rf_bind (f_Y_baseSegments hy rfl rv4 (e_n 1) (show inR 1 by decide) hR) (fun g4 m2 hR3 => ?_)
  exact fk_Y_refer_256 hy rfl rv1 rfl rv2 rfl rv3 rfl rv4 (e_n 0) (show inR 0 by decide) hR3
noncomputable def nk_Y_refer_205 (v1 : Nat) (v2 : Int) (v3 : Int) (v4 : Int) (v5 : Int) (m : YS) : Option (Int × YS) :=
  if v2 < v3 then
    ix v2 (yLn v1 : Int) <|
    (N_Y_isSegment (m v1 v2) m).bind fun z5 =>
    if z5 = 0 then
      nk_Y_refer_246 v1 v2 v3 v4 m
    else
      (N_Y_baseSegments v4 0 m).bind fun m10 =>
      (N_Y_oneSegment v1 v3 m10).bind <| u2 fun z14 m17 =>
      if z14 = 0 then
        some (0, m17)
      else
        (N_Y_segments v1 v3 m17).bind <| u2 fun z23 m26 =>
        if z23 = 0 then
          some (0, m26)
        else
          nk_Y_refer_256 v1 v2 v3 v4 v5 m26
  else
    nk_Y_refer_246 v1 v2 v3 v4 m
theorem fk_Y_refer_205 {w y : Prop} {g : g_S} {n : NS} {m : YS} (hy : y) {xv1 : Nat} {v1 : Nat} (ev1 : xv1 = yAd v1) (rv1 : v1 < 186 ∧ yT v1 = 1) {xv2 : Int32} {v2 : Int} (ev2 : xv2 = Int32.ofInt v2) (rv2 : inR v2) {xv3 : Int32} {v3 : Int} (ev3 : xv3 = Int32.ofInt v3) (rv3 : inR v3) {xv4 : Int32} {v4 : Int} (ev4 : xv4 = Int32.ofInt v4) (rv4 : inR v4) {xv5 : Int32} {v5 : Int} (ev5 : xv5 = Int32.ofInt v5) (rv5 : inR v5) (hR : RC w y g n m) : Rf (fun a b => RZ a.1 b.1 ∧ RC w y a.2 n b.2) (k_Y_refer_205 1838 xv1 xv2 xv3 xv4 xv5 g) (nk_Y_refer_205 v1 v2 v3 v4 v5 m) := by
  subst ev1
  subst ev2
  subst ev3
  subst ev4
  subst ev5
  unfold k_Y_refer_205 nk_Y_refer_205
  refine rf_lt rfl rfl rv2 rv3 ?_ ?_
  · refine y_aB hR hy rv1 rfl rfl rv2 (fun h2 h3 => ?_)
    refine rf_bind (f_Y_isSegment hy rfl (inB.r h3) hR) (fun a7 z5 h => ?_)
    obtain ⟨rfl, r6⟩ := h
    refine rf_eq rfl (e_n 0) (inZ.r r6) (show inR 0 by decide) ?_ ?_
    · exact fk_Y_refer_246 hy rfl rv1 rfl rv2 rfl rv3 rfl rv4 hR
    · refine v_c (y_gt hR hy) ?_
      refine rf_bind (f_Y_baseSegments hy rfl rv4 (e_n 0) (show inR 0 by decide) hR) (fun g12 m10 hR11 => ?_)
      refine v_c2 (y_gt hR11 hy) ?_
      refine rf_c2 (f_Y_oneSegment hy rfl rv1 rfl rv3 hR11) (fun a16 g19 b h => ?_)
      obtain ⟨z14, m17⟩ := b
      refine rf_v2 ?_
      obtain ⟨rfl, r15⟩ := (show RZ a16 z14 from h.1)
      have hR18 : RC w y g19 n m17 := h.2
      refine rf_eq rfl (e_n 0) (inZ.r r15) (show inR 0 by decide) ?_ ?_
      · exact rf_ok (by exact ⟨⟨(e_n 0), (.inl rfl)⟩, hR18⟩)
      · refine v_c2 (y_gt hR18 hy) ?_
        refine rf_c2 (f_Y_segments hy rfl rv1 rfl rv3 hR18) (fun a25 g28 b h => ?_)
        obtain ⟨z23, m26⟩ := b
        refine rf_v2 ?_
        obtain ⟨rfl, r24⟩ := (show RZ a25 z23 from h.1)
        have hR27 : RC w y g28 n m26 := h.2
        refine rf_eq rfl (e_n 0) (inZ.r r24) (show inR 0 by decide) ?_ ?_
        · exact rf_ok (by exact ⟨⟨(e_n 0), (.inl rfl)⟩, hR27⟩)
        · exact fk_Y_refer_256 hy rfl rv1 rfl rv2 rfl rv3 rfl rv4 rfl rv5 hR27
  · exact fk_Y_refer_246 hy rfl rv1 rfl rv2 rfl rv3 rfl rv4 hR
noncomputable def nk_Y_refer_138 (v1 : Nat) (v2 : Int) (v3 : Int) (v4 : Int) (v5 : Int) (m : YS) : Option (Int × YS) :=
  (N_Y_siteEnd v4 m).bind fun z2 =>
  (NL_Y_refer_149 v1 v2 v3 v4 v5 z2 0 m).bind <| fun m5 =>
  if v2 < v3 then
    ix v2 (yLn v1 : Int) <|
    if (m5 v1 v2) = 47 then
      (N_Y_segments v1 v3 m5).bind <| u2 fun z13 m16 =>
      if z13 = 0 then
        some (0, m16)
      else
        nk_Y_refer_256 v1 v2 v3 v4 v5 m16
    else
      nk_Y_refer_205 v1 v2 v3 v4 v5 m5
  else
    nk_Y_refer_205 v1 v2 v3 v4 v5 m5
theorem fk_Y_refer_138 {w y : Prop} {g : g_S} {n : NS} {m : YS} (hy : y) {xv1 : Nat} {v1 : Nat} (ev1 : xv1 = yAd v1) (rv1 : v1 < 186 ∧ yT v1 = 1) {xv2 : Int32} {v2 : Int} (ev2 : xv2 = Int32.ofInt v2) (rv2 : inR v2) {xv3 : Int32} {v3 : Int} (ev3 : xv3 = Int32.ofInt v3) (rv3 : inR v3) {xv4 : Int32} {v4 : Int} (ev4 : xv4 = Int32.ofInt v4) (rv4 : inR v4) {xv5 : Int32} {v5 : Int} (ev5 : xv5 = Int32.ofInt v5) (rv5 : inR v5) (hR : RC w y g n m) : Rf (fun a b => RZ a.1 b.1 ∧ RC w y a.2 n b.2) (k_Y_refer_138 1838 xv1 xv2 xv3 xv4 xv5 g) (nk_Y_refer_138 v1 v2 v3 v4 v5 m) := by
  subst ev1
  subst ev2
  subst ev3
  subst ev4
  subst ev5
  unfold k_Y_refer_138 nk_Y_refer_138
  refine v_c (y_gt hR hy) ?_
  refine rf_bind (f_Y_siteEnd hy rfl rv4 hR) (fun a4 z2 h => ?_)
  obtain ⟨rfl, r3⟩ := h
  refine rf_bind (fL_Y_refer_149 hy rfl rv1 rfl rv2 rfl rv3 rfl rv4 rfl rv5 rfl r3 (e_n 0) (show inR 0 by decide) hR) (fun a6 m5 h => ?_)
  have hR7 : RC w y a6 n m5 := h
  refine rf_lt rfl rfl rv2 rv3 ?_ ?_
  · refine y_aB hR7 hy rv1 rfl rfl rv2 (fun h9 h10 => ?_)
    refine rf_eq rfl (e_n 47) (inB.r h10) (show inR 47 by decide) ?_ ?_
    · refine v_c2 (y_gt hR7 hy) ?_
      refine rf_c2 (f_Y_segments hy rfl rv1 rfl rv3 hR7) (fun a15 g18 b h => ?_)
      obtain ⟨z13, m16⟩ := b
      refine rf_v2 ?_
      obtain ⟨rfl, r14⟩ := (show RZ a15 z13 from h.1)
      have hR17 : RC w y g18 n m16 := h.2
      refine rf_eq rfl (e_n 0) (inZ.r r14) (show inR 0 by decide) ?_ ?_
      · exact rf_ok (by exact ⟨⟨(e_n 0), (.inl rfl)⟩, hR17⟩)
      · exact fk_Y_refer_256 hy rfl rv1 rfl rv2 rfl rv3 rfl rv4 rfl rv5 hR17
    · exact fk_Y_refer_205 hy rfl rv1 rfl rv2 rfl rv3 rfl rv4 rfl rv5 hR7
  · exact fk_Y_refer_205 hy rfl rv1 rfl rv2 rfl rv3 rfl rv4 rfl rv5 hR7
noncomputable def nk_Y_refer_135 (v1 : Nat) (v2 : Int) (v3 : Int) (v4 : Int) (v5 : Int) (m : YS) : Option (Int × YS) :=
  nk_Y_refer_256 v1 v2 v3 v4 v5 m
theorem fk_Y_refer_135 {w y : Prop} {g : g_S} {n : NS} {m : YS} (hy : y) {xv1 : Nat} {v1 : Nat} (ev1 : xv1 = yAd v1) (rv1 : v1 < 186 ∧ yT v1 = 1) {xv2 : Int32} {v2 : Int} (ev2 : xv2 = Int32.ofInt v2) (rv2 : inR v2) {xv3 : Int32} {v3 : Int} (ev3 : xv3 = Int32.ofInt v3) (rv3 : inR v3) {xv4 : Int32} {v4 : Int} (ev4 : xv4 = Int32.ofInt v4) (rv4 : inR v4) {xv5 : Int32} {v5 : Int} (ev5 : xv5 = Int32.ofInt v5) (rv5 : inR v5) (hR : RC w y g n m) : Rf (fun a b => RZ a.1 b.1 ∧ RC w y a.2 n b.2) (k_Y_refer_135 1838 xv1 xv2 xv3 xv4 xv5 g) (nk_Y_refer_135 v1 v2 v3 v4 v5 m) := by
  subst ev1
  subst ev2
  subst ev3
  subst ev4
  subst ev5
  unfold k_Y_refer_135 nk_Y_refer_135
  exact fk_Y_refer_256 hy rfl rv1 rfl rv2 rfl rv3 rfl rv4 rfl rv5 hR
noncomputable def N_Y_refer (v1 : Nat) (v2 : Int) (v3 : Int) (v4 : Int) (m : YS) : Option (Int × YS) :=
  st (yw m 12 0 0) fun m2 =>
  st (yw m2 14 0 0) fun m6 =>
  st (yw m6 15 0 v2) fun m10 =>
  ix 0 66 <|
  st (yw m10 7 0 0) fun m15 =>
  ix 0 66 <|
  st (yw m15 8 0 0) fun m20 =>
  ck (v2 + 1) <|
  if (v2 + 1) < v3 then
    ix v2 (yLn v1 : Int) <|
    if (m20 v1 v2) = 47 then
      ck (v2 + 1) <|
      ix (v2 + 1) (yLn v1 : Int) <|
      if (m20 v1 (v2 + 1)) = 47 then
        ck (v2 + 2) <|
        (N_Y_nameEnd v1 (v2 + 2) v3 m20).bind fun z34 =>
        ck (v2 + 2) <|
        if z34 = (v2 + 2) then
          some (0, m20)
        else
          (NL_Y_refer_80 v1 v2 v3 v4 1 z34 v2 m20).bind <| fun m40 =>
          st (yw m40 15 0 z34) fun m44 =>
          (N_Y_segments v1 v3 m44).bind <| u2 fun z48 m51 =>
          if z48 = 0 then
            some (0, m51)
          else
            if z34 = (m51 15 0) then
              (N_Y_segment v1 v2 0 m51).bind fun m59 =>
              nk_Y_refer_135 v1 v2 v3 v4 1 m59
            else
              nk_Y_refer_135 v1 v2 v3 v4 1 m51
      else
        nk_Y_refer_138 v1 v2 v3 v4 1 m20
    else
      nk_Y_refer_138 v1 v2 v3 v4 1 m20
  else
    nk_Y_refer_138 v1 v2 v3 v4 1 m20
theorem f_Y_refer {w y : Prop} {g : g_S} {n : NS} {m : YS} (hy : y) {xv1 : Nat} {v1 : Nat} (ev1 : xv1 = yAd v1) (rv1 : v1 < 186 ∧ yT v1 = 1) {xv2 : Int32} {v2 : Int} (ev2 : xv2 = Int32.ofInt v2) (rv2 : inR v2) {xv3 : Int32} {v3 : Int} (ev3 : xv3 = Int32.ofInt v3) (rv3 : inR v3) {xv4 : Int32} {v4 : Int} (ev4 : xv4 = Int32.ofInt v4) (rv4 : inR v4) (hR : RC w y g n m) : Rf (fun a b => RZ a.1 b.1 ∧ RC w y a.2 n b.2) (M_Y_refer 1838 xv1 xv2 xv3 xv4 g) (N_Y_refer v1 v2 v3 v4 m) := by
  subst ev1
  subst ev2
  subst ev3
  subst ev4
  unfold M_Y_refer N_Y_refer
  refine y_pI hR hy yk12 ⟨yt12, yz12⟩ (e_n 0) (show inR 0 by decide) (fun g4 m2 hR3 => ?_)
  refine y_pZ hR3 hy yk14 yt14 (e_n 0) (.inl rfl) (fun g8 m6 hR7 => ?_)
  refine y_pI hR7 hy yk15 ⟨yt15, yz15⟩ rfl rv2 (fun g12 m10 hR11 => ?_)
  refine y_Q hR11 hy ya7.1 (by decide) ?_
  refine y_sI hR11 hy ya7 yl7 (e_n 0) (show inR 0 by decide) (e_n 0) (show inR 0 by decide) (fun g17 m15 hR16 => ?_)
  refine y_Q hR16 hy ya8.1 (by decide) ?_
  refine y_sI hR16 hy ya8 yl8 (e_n 0) (show inR 0 by decide) (e_n 0) (show inR 0 by decide) (fun g22 m20 hR21 => ?_)
  refine rf_ck (fun h23 => ?_)
  refine rf_lt (e_add rfl (e_n 1)) rfl h23 rv3 ?_ ?_
  · refine y_aB hR21 hy rv1 rfl rfl rv2 (fun h25 h26 => ?_)
    refine rf_eq rfl (e_n 47) (inB.r h26) (show inR 47 by decide) ?_ ?_
    · refine rf_ck (fun h28 => ?_)
      refine y_aB hR21 hy rv1 rfl (e_add rfl (e_n 1)) h28 (fun h29 h30 => ?_)
      refine rf_eq rfl (e_n 47) (inB.r h30) (show inR 47 by decide) ?_ ?_
      · refine rf_ck (fun h32 => ?_)
        refine rf_bind (f_Y_nameEnd hy rfl rv1 (e_add rfl (e_n 2)) h32 rfl rv3 hR21) (fun a36 z34 h => ?_)
        obtain ⟨rfl, r35⟩ := h
        refine rf_ck (fun h37 => ?_)
        refine rf_eq rfl (e_add rfl (e_n 2)) r35 h37 ?_ ?_
        · exact rf_ok (by exact ⟨⟨(e_n 0), (.inl rfl)⟩, hR21⟩)
        · refine rf_bind (fL_Y_refer_80 hy rfl rv1 rfl rv2 rfl rv3 rfl rv4 (e_n 1) (show inR 1 by decide) rfl r35 rfl rv2 hR21) (fun a41 m40 h => ?_)
          have hR42 : RC w y a41 n m40 := h
          refine y_pI hR42 hy yk15 ⟨yt15, yz15⟩ rfl r35 (fun g46 m44 hR45 => ?_)
          refine v_c2 (y_gt hR45 hy) ?_
          refine rf_c2 (f_Y_segments hy rfl rv1 rfl rv3 hR45) (fun a50 g53 b h => ?_)
          obtain ⟨z48, m51⟩ := b
          refine rf_v2 ?_
          obtain ⟨rfl, r49⟩ := (show RZ a50 z48 from h.1)
          have hR52 : RC w y g53 n m51 := h.2
          refine rf_eq rfl (e_n 0) (inZ.r r49) (show inR 0 by decide) ?_ ?_
          · exact rf_ok (by exact ⟨⟨(e_n 0), (.inl rfl)⟩, hR52⟩)
          · refine y_I hR52 hy yk15 yt15 (fun h56 => ?_)
            refine rf_eq rfl rfl r35 h56 ?_ ?_
            · refine v_c (y_gt hR52 hy) ?_
              refine rf_bind (f_Y_segment hy rfl rv1 rfl rv2 (e_n 0) (show inR 0 by decide) hR52) (fun g61 m59 hR60 => ?_)
              exact fk_Y_refer_135 hy rfl rv1 rfl rv2 rfl rv3 rfl rv4 (e_n 1) (show inR 1 by decide) hR60
            · exact fk_Y_refer_135 hy rfl rv1 rfl rv2 rfl rv3 rfl rv4 (e_n 1) (show inR 1 by decide) hR52
      · exact fk_Y_refer_138 hy rfl rv1 rfl rv2 rfl rv3 rfl rv4 (e_n 1) (show inR 1 by decide) hR21
    · exact fk_Y_refer_138 hy rfl rv1 rfl rv2 rfl rv3 rfl rv4 (e_n 1) (show inR 1 by decide) hR21
  · exact fk_Y_refer_138 hy rfl rv1 rfl rv2 rfl rv3 rfl rv4 (e_n 1) (show inR 1 by decide) hR21
noncomputable def nb_Y_copyRow_2 (v1 : Int) (v2 : Int) (v3 : Int) (m : YS) : Option ((Int × YS) ⊕ (YS)) :=
  if v3 < 150 then
    ck (v1 * 150) <|
    ck ((v1 * 150) + v3) <|
    ck (v2 * 150) <|
    ck ((v2 * 150) + v3) <|
    ix ((v2 * 150) + v3) 9900 <|
    ix ((v1 * 150) + v3) 9900 <|
    st (yw m 6 ((v1 * 150) + v3) (m 6 ((v2 * 150) + v3))) fun m11 =>
    ck (v3 + 1) <|
    some (.inl (v3 + 1, m11))
  else
    some (.inr m)
theorem fb_Y_copyRow_2 {w y : Prop} {g : g_S} {n : NS} {m : YS} (hy : y) {xv1 : Int32} {v1 : Int} (ev1 : xv1 = Int32.ofInt v1) (rv1 : inR v1) {xv2 : Int32} {v2 : Int} (ev2 : xv2 = Int32.ofInt v2) (rv2 : inR v2) {xv3 : Int32} {v3 : Int} (ev3 : xv3 = Int32.ofInt v3) (rv3 : inR v3) (hR : RC w y g n m) : Rf (RS (fun a b => RI a.1 b.1 ∧ RC w y a.2 n b.2) (fun a b => RC w y a n b)) (b_Y_copyRow_2 1838 xv1 xv2 xv3 g) (nb_Y_copyRow_2 v1 v2 v3 m) := by
  subst ev1
  subst ev2
  subst ev3
  unfold b_Y_copyRow_2 nb_Y_copyRow_2
  refine rf_lt rfl (e_n 150) rv3 (show inR 150 by decide) ?_ ?_
  · refine y_Q hR hy ya6.1 (by decide) ?_
    refine rf_ck (fun h3 => ?_)
    refine rf_ck (fun h4 => ?_)
    refine y_Q hR hy ya6.1 (by decide) ?_
    refine rf_ck (fun h6 => ?_)
    refine rf_ck (fun h7 => ?_)
    refine y_aB hR hy ya6 yl6 (e_add (e_mul rfl (e_n 150)) rfl) h7 (fun h8 h9 => ?_)
    refine y_sB hR hy ya6 yl6 (e_add (e_mul rfl (e_n 150)) rfl) h4 rfl h9 (fun g13 m11 hR12 => ?_)
    refine rf_ck (fun h14 => ?_)
    exact rf_ok (by exact ⟨⟨(e_add rfl (e_n 1)), h14⟩, hR12⟩)
  · exact rf_ok (by exact hR)
noncomputable def NL_Y_copyRow_2 (v1 : Int) (v2 : Int) (v3 : Int) (m : YS) : Option (YS) :=
  it (fun s : Int × YS => nb_Y_copyRow_2 v1 v2 s.1 s.2) (v3, m)
theorem fL_Y_copyRow_2 {w y : Prop} {g : g_S} {n : NS} {m : YS} (hy : y) {xv1 : Int32} {v1 : Int} (ev1 : xv1 = Int32.ofInt v1) (rv1 : inR v1) {xv2 : Int32} {v2 : Int} (ev2 : xv2 = Int32.ofInt v2) (rv2 : inR v2) {xv3 : Int32} {v3 : Int} (ev3 : xv3 = Int32.ofInt v3) (rv3 : inR v3) (hR : RC w y g n m) : Rf (fun a b => RC w y a n b) (L_Y_copyRow_2 1838 xv1 xv2 xv3 g) (NL_Y_copyRow_2 v1 v2 v3 m) := by
  subst ev1
  subst ev2
  subst ev3
  unfold L_Y_copyRow_2 NL_Y_copyRow_2
  refine rf_it (I := (fun a b => RI a.1 b.1 ∧ RC w y a.2 n b.2)) (fun s t h => ?_) ⟨⟨rfl, rv3⟩, hR⟩
  exact fb_Y_copyRow_2 hy rfl rv1 rfl rv2 h.1.1 h.1.2 h.2
theorem NL_Y_copyRow_2_eq (v1 : Int) (v2 : Int) (v3 : Int) (m : YS) : NL_Y_copyRow_2 v1 v2 v3 m = itc (nb_Y_copyRow_2 v1 v2 v3 m) (fun s => NL_Y_copyRow_2 v1 v2 s.1 s.2) := it_eq2 (fun s : Int × YS => nb_Y_copyRow_2 v1 v2 s.1 s.2) (v3, m)
noncomputable def N_Y_copyRow (v1 : Int) (v2 : Int) (m : YS) : Option (YS) :=
  (NL_Y_copyRow_2 v1 v2 0 m).bind <| fun m1 =>
  ix v2 66 <|
  ix v1 66 <|
  st (yw m1 7 v1 (m1 7 v2)) fun m9 =>
  ix v2 66 <|
  ix v1 66 <|
  st (yw m9 8 v1 (m9 8 v2)) fun m17 =>
  some m17
theorem f_Y_copyRow {w y : Prop} {g : g_S} {n : NS} {m : YS} (hy : y) {xv1 : Int32} {v1 : Int} (ev1 : xv1 = Int32.ofInt v1) (rv1 : inR v1) {xv2 : Int32} {v2 : Int} (ev2 : xv2 = Int32.ofInt v2) (rv2 : inR v2) (hR : RC w y g n m) : Rf (fun a b => RC w y a n b) (M_Y_copyRow 1838 xv1 xv2 g) (N_Y_copyRow v1 v2 m) := by
  subst ev1
  subst ev2
  unfold M_Y_copyRow N_Y_copyRow
  refine rf_bind (fL_Y_copyRow_2 hy rfl rv1 rfl rv2 (e_n 0) (show inR 0 by decide) hR) (fun a2 m1 h => ?_)
  have hR3 : RC w y a2 n m1 := h
  refine y_Q hR3 hy ya7.1 (by decide) ?_
  refine y_Q hR3 hy ya7.1 (by decide) ?_
  refine y_aI hR3 hy ya7 yl7 rfl rv2 (fun h6 h7 => ?_)
  refine y_sI hR3 hy ya7 yl7 rfl rv1 rfl h7 (fun g11 m9 hR10 => ?_)
  refine y_Q hR10 hy ya8.1 (by decide) ?_
  refine y_Q hR10 hy ya8.1 (by decide) ?_
  refine y_aI hR10 hy ya8 yl8 rfl rv2 (fun h14 h15 => ?_)
  refine y_sI hR10 hy ya8 yl8 rfl rv1 rfl h15 (fun g19 m17 hR18 => ?_)
  exact rf_ok (by exact hR18)
noncomputable def nb_Y_isWord_6 (v0 : Nat) (v2 : Int) (v5 : Int) (v6 : Int) (m : YS) : Option ((Int × Int) ⊕ ((Unit) ⊕ (Unit))) :=
  if 0 < v6 then
    if v5 < v2 then
      ix v5 (yLn v0 : Int) <|
      ck (v6 % 32) <|
      ck (96 + (v6 % 32)) <|
      if (m v0 v5) = (96 + (v6 % 32)) then
        ck (v5 + 1) <|
        some (.inl (v5 + 1, v6 / 32))
      else
        some (.inr (.inl ()))
    else
      some (.inr (.inl ()))
  else
    some (.inr (.inr ()))
theorem fb_Y_isWord_6 {w y : Prop} {g : g_S} {n : NS} {m : YS} (hy : y) {xv0 : Nat} {v0 : Nat} (ev0 : xv0 = yAd v0) (rv0 : v0 < 186 ∧ yT v0 = 1) {xv2 : Int32} {v2 : Int} (ev2 : xv2 = Int32.ofInt v2) (rv2 : inR v2) {xv5 : Int32} {v5 : Int} (ev5 : xv5 = Int32.ofInt v5) (rv5 : inR v5) {xv6 : Int64} {v6 : Int} (ev6 : xv6 = Int64.ofInt v6) (rv6 : inL v6) (hR : RC w y g n m) : Rf (RS (fun a b => RI a.1 b.1 ∧ RJ a.2 b.2) (RS (fun _ _ => True) (fun _ _ => True))) (b_Y_isWord_6 xv0 xv2 xv5 xv6 g) (nb_Y_isWord_6 v0 v2 v5 v6 m) := by
  subst ev0
  subst ev2
  subst ev5
  subst ev6
  unfold b_Y_isWord_6 nb_Y_isWord_6
  refine rf_lgt rfl (f_n 0) rv6 (show inL 0 by decide) ?_ ?_
  · refine rf_lt rfl rfl rv5 rv2 ?_ ?_
    · refine y_aB hR hy rv0 rfl rfl rv5 (fun h3 h4 => ?_)
      refine rf_ck (fun h6 => ?_)
      refine rf_ck (fun h7 => ?_)
      refine rf_eq rfl (e_add (e_n 96) (e_l2i (f_and31 rfl))) (inB.r h4) h7 ?_ ?_
      · refine rf_ck (fun h9 => ?_)
        exact rf_ok (by exact ⟨⟨(e_add rfl (e_n 1)), h9⟩, ⟨(f_shr5 rfl rv6), (q32 rv6)⟩⟩)
      · exact rf_ok (by exact trivial)
    · exact rf_ok (by exact trivial)
  · exact rf_ok (by exact trivial)
noncomputable def NL_Y_isWord_6 (v0 : Nat) (v2 : Int) (v5 : Int) (v6 : Int) (m : YS) : Option ((Unit) ⊕ (Unit)) :=
  it (fun s : Int × Int => nb_Y_isWord_6 v0 v2 s.1 s.2 m) (v5, v6)
theorem fL_Y_isWord_6 {w y : Prop} {g : g_S} {n : NS} {m : YS} (hy : y) {xv0 : Nat} {v0 : Nat} (ev0 : xv0 = yAd v0) (rv0 : v0 < 186 ∧ yT v0 = 1) {xv2 : Int32} {v2 : Int} (ev2 : xv2 = Int32.ofInt v2) (rv2 : inR v2) {xv5 : Int32} {v5 : Int} (ev5 : xv5 = Int32.ofInt v5) (rv5 : inR v5) {xv6 : Int64} {v6 : Int} (ev6 : xv6 = Int64.ofInt v6) (rv6 : inL v6) (hR : RC w y g n m) : Rf (RS (fun _ _ => True) (fun _ _ => True)) (L_Y_isWord_6 xv0 xv2 xv5 xv6 g) (NL_Y_isWord_6 v0 v2 v5 v6 m) := by
  subst ev0
  subst ev2
  subst ev5
  subst ev6
  unfold L_Y_isWord_6 NL_Y_isWord_6
  refine rf_it (I := (fun a b => RI a.1 b.1 ∧ RJ a.2 b.2)) (fun s t h => ?_) ⟨⟨rfl, rv5⟩, ⟨rfl, rv6⟩⟩
  exact fb_Y_isWord_6 hy rfl rv0 rfl rv2 h.1.1 h.1.2 h.2.1 h.2.2 hR
theorem NL_Y_isWord_6_eq (v0 : Nat) (v2 : Int) (v5 : Int) (v6 : Int) (m : YS) : NL_Y_isWord_6 v0 v2 v5 v6 m = itc (nb_Y_isWord_6 v0 v2 v5 v6 m) (fun s => NL_Y_isWord_6 v0 v2 s.1 s.2 m) := it_eq2 (fun s : Int × Int => nb_Y_isWord_6 v0 v2 s.1 s.2 m) (v5, v6)
noncomputable def N_Y_isWord (v0 : Nat) (v1 : Int) (v2 : Int) (v3 : Int) (m : YS) : Option (Int) :=
  (NL_Y_isWord_6 v0 v2 v1 v3 m).bind <|
    us (fun _ =>
    some 0)
    (fun _ =>
    some 1)
theorem f_Y_isWord {w y : Prop} {g : g_S} {n : NS} {m : YS} (hy : y) {xv0 : Nat} {v0 : Nat} (ev0 : xv0 = yAd v0) (rv0 : v0 < 186 ∧ yT v0 = 1) {xv1 : Int32} {v1 : Int} (ev1 : xv1 = Int32.ofInt v1) (rv1 : inR v1) {xv2 : Int32} {v2 : Int} (ev2 : xv2 = Int32.ofInt v2) (rv2 : inR v2) {xv3 : Int64} {v3 : Int} (ev3 : xv3 = Int64.ofInt v3) (rv3 : inL v3) (hR : RC w y g n m) : Rf (fun a b => RZ a b) (M_Y_isWord xv0 xv1 xv2 xv3 g) (N_Y_isWord v0 v1 v2 v3 m) := by
  subst ev0
  subst ev1
  subst ev2
  subst ev3
  unfold M_Y_isWord N_Y_isWord
  refine rf_bind (fL_Y_isWord_6 hy rfl rv0 rfl rv2 rfl rv1 rfl rv3 hR) (fun a b h => rf_us h (fun a b h => ?_) (fun a b h => ?_))
  · exact rf_ok (by exact ⟨(e_n 0), (.inl rfl)⟩)
  · exact rf_ok (by exact ⟨(e_n 1), (.inr rfl)⟩)
noncomputable def nb_Y_field_48 (v1 : Int) (v2 : Int) (v3 : Int) (m : YS) : Option ((Int) ⊕ (Int)) :=
  if v3 < v2 then
    ix v3 2000 <|
    if (m 2 v3) = 61 then
      some (.inr v3)
    else
      ck (v3 + 1) <|
      some (.inl (v3 + 1))
  else
    some (.inr v3)
theorem fb_Y_field_48 {w y : Prop} {g : g_S} {n : NS} {m : YS} (hy : y) {xv1 : Int32} {v1 : Int} (ev1 : xv1 = Int32.ofInt v1) (rv1 : inR v1) {xv2 : Int32} {v2 : Int} (ev2 : xv2 = Int32.ofInt v2) (rv2 : inR v2) {xv3 : Int32} {v3 : Int} (ev3 : xv3 = Int32.ofInt v3) (rv3 : inR v3) (hR : RC w y g n m) : Rf (RS (fun a b => RI a b) (fun a b => RI a b)) (b_Y_field_48 1838 xv1 xv2 xv3 g) (nb_Y_field_48 v1 v2 v3 m) := by
  subst ev1
  subst ev2
  subst ev3
  unfold b_Y_field_48 nb_Y_field_48
  refine rf_lt rfl rfl rv3 rv2 ?_ ?_
  · refine y_Q hR hy ya2.1 (by decide) ?_
    refine y_aB hR hy ya2 yl2 rfl rv3 (fun h3 h4 => ?_)
    refine rf_eq rfl (e_n 61) (inB.r h4) (show inR 61 by decide) ?_ ?_
    · exact rf_ok (by exact ⟨rfl, rv3⟩)
    · refine rf_ck (fun h6 => ?_)
      exact rf_ok (by exact ⟨(e_add rfl (e_n 1)), h6⟩)
  · exact rf_ok (by exact ⟨rfl, rv3⟩)
noncomputable def NL_Y_field_48 (v1 : Int) (v2 : Int) (v3 : Int) (m : YS) : Option (Int) :=
  it (fun s : Int => nb_Y_field_48 v1 v2 s m) (v3)
theorem fL_Y_field_48 {w y : Prop} {g : g_S} {n : NS} {m : YS} (hy : y) {xv1 : Int32} {v1 : Int} (ev1 : xv1 = Int32.ofInt v1) (rv1 : inR v1) {xv2 : Int32} {v2 : Int} (ev2 : xv2 = Int32.ofInt v2) (rv2 : inR v2) {xv3 : Int32} {v3 : Int} (ev3 : xv3 = Int32.ofInt v3) (rv3 : inR v3) (hR : RC w y g n m) : Rf (fun a b => RI a b) (L_Y_field_48 1838 xv1 xv2 xv3 g) (NL_Y_field_48 v1 v2 v3 m) := by
  subst ev1
  subst ev2
  subst ev3
  unfold L_Y_field_48 NL_Y_field_48
  refine rf_it (I := (fun a b => RI a b)) (fun s t h => ?_) ⟨rfl, rv3⟩
  exact fb_Y_field_48 hy rfl rv1 rfl rv2 h.1 h.2 hR
theorem NL_Y_field_48_eq (v1 : Int) (v2 : Int) (v3 : Int) (m : YS) : NL_Y_field_48 v1 v2 v3 m = itc (nb_Y_field_48 v1 v2 v3 m) (fun s => NL_Y_field_48 v1 v2 s m) := it_eq2 (fun s : Int => nb_Y_field_48 v1 v2 s m) (v3)
noncomputable def nb_Y_field_348 (v3 : Int) (v5 : Int) (v7 : Int) (m : YS) : Option ((Int × YS) ⊕ (YS)) :=
  if v7 < (m 39 0) then
    ck (v3 + 1) <|
    ck ((v3 + 1) + v7) <|
    ix ((v3 + 1) + v7) 2000 <|
    ix v7 16 <|
    st (yw m 43 v7 (m 2 ((v3 + 1) + v7))) fun m10 =>
    ck (v7 + 1) <|
    some (.inl (v7 + 1, m10))
  else
    some (.inr m)
theorem fb_Y_field_348 {w y : Prop} {g : g_S} {n : NS} {m : YS} (hy : y) {xv3 : Int32} {v3 : Int} (ev3 : xv3 = Int32.ofInt v3) (rv3 : inR v3) {xv5 : Int32} {v5 : Int} (ev5 : xv5 = Int32.ofInt v5) (rv5 : inR v5) {xv7 : Int32} {v7 : Int} (ev7 : xv7 = Int32.ofInt v7) (rv7 : inR v7) (hR : RC w y g n m) : Rf (RS (fun a b => RI a.1 b.1 ∧ RC w y a.2 n b.2) (fun a b => RC w y a n b)) (b_Y_field_348 1838 xv3 xv5 xv7 g) (nb_Y_field_348 v3 v5 v7 m) := by
  subst ev3
  subst ev5
  subst ev7
  unfold b_Y_field_348 nb_Y_field_348
  refine y_I hR hy yk39 yt39 (fun h1 => ?_)
  refine rf_lt rfl rfl rv7 h1 ?_ ?_
  · refine y_Q hR hy ya43.1 (by decide) ?_
    refine y_Q hR hy ya2.1 (by decide) ?_
    refine rf_ck (fun h5 => ?_)
    refine rf_ck (fun h6 => ?_)
    refine y_aB hR hy ya2 yl2 (e_add (e_add rfl (e_n 1)) rfl) h6 (fun h7 h8 => ?_)
    refine y_sB hR hy ya43 yl43 rfl rv7 rfl h8 (fun g12 m10 hR11 => ?_)
    refine rf_ck (fun h13 => ?_)
    exact rf_ok (by exact ⟨⟨(e_add rfl (e_n 1)), h13⟩, hR11⟩)
  · exact rf_ok (by exact hR)
noncomputable def NL_Y_field_348 (v3 : Int) (v5 : Int) (v7 : Int) (m : YS) : Option (YS) :=
  it (fun s : Int × YS => nb_Y_field_348 v3 v5 s.1 s.2) (v7, m)
theorem fL_Y_field_348 {w y : Prop} {g : g_S} {n : NS} {m : YS} (hy : y) {xv3 : Int32} {v3 : Int} (ev3 : xv3 = Int32.ofInt v3) (rv3 : inR v3) {xv5 : Int32} {v5 : Int} (ev5 : xv5 = Int32.ofInt v5) (rv5 : inR v5) {xv7 : Int32} {v7 : Int} (ev7 : xv7 = Int32.ofInt v7) (rv7 : inR v7) (hR : RC w y g n m) : Rf (fun a b => RC w y a n b) (L_Y_field_348 1838 xv3 xv5 xv7 g) (NL_Y_field_348 v3 v5 v7 m) := by
  subst ev3
  subst ev5
  subst ev7
  unfold L_Y_field_348 NL_Y_field_348
  refine rf_it (I := (fun a b => RI a.1 b.1 ∧ RC w y a.2 n b.2)) (fun s t h => ?_) ⟨⟨rfl, rv7⟩, hR⟩
  exact fb_Y_field_348 hy rfl rv3 rfl rv5 h.1.1 h.1.2 h.2
theorem NL_Y_field_348_eq (v3 : Int) (v5 : Int) (v7 : Int) (m : YS) : NL_Y_field_348 v3 v5 v7 m = itc (nb_Y_field_348 v3 v5 v7 m) (fun s => NL_Y_field_348 v3 v5 s.1 s.2) := it_eq2 (fun s : Int × YS => nb_Y_field_348 v3 v5 s.1 s.2) (v7, m)
noncomputable def nb_Y_field_384 (v5 : Int) (v7 : Int) (m : YS) : Option ((Int × YS) ⊕ (YS)) :=
  if v7 < (m 40 0) then
    ck (8 + v7) <|
    ck (v5 + 1) <|
    ck ((v5 + 1) + v7) <|
    ix ((v5 + 1) + v7) 2000 <|
    ix (8 + v7) 16 <|
    st (yw m 43 (8 + v7) (m 2 ((v5 + 1) + v7))) fun m11 =>
    ck (v7 + 1) <|
    some (.inl (v7 + 1, m11))
  else
    some (.inr m)
theorem fb_Y_field_384 {w y : Prop} {g : g_S} {n : NS} {m : YS} (hy : y) {xv5 : Int32} {v5 : Int} (ev5 : xv5 = Int32.ofInt v5) (rv5 : inR v5) {xv7 : Int32} {v7 : Int} (ev7 : xv7 = Int32.ofInt v7) (rv7 : inR v7) (hR : RC w y g n m) : Rf (RS (fun a b => RI a.1 b.1 ∧ RC w y a.2 n b.2) (fun a b => RC w y a n b)) (b_Y_field_384 1838 xv5 xv7 g) (nb_Y_field_384 v5 v7 m) := by
  subst ev5
  subst ev7
  unfold b_Y_field_384 nb_Y_field_384
  refine y_I hR hy yk40 yt40 (fun h1 => ?_)
  refine rf_lt rfl rfl rv7 h1 ?_ ?_
  · refine y_Q hR hy ya43.1 (by decide) ?_
    refine rf_ck (fun h4 => ?_)
    refine y_Q hR hy ya2.1 (by decide) ?_
    refine rf_ck (fun h6 => ?_)
    refine rf_ck (fun h7 => ?_)
    refine y_aB hR hy ya2 yl2 (e_add (e_add rfl (e_n 1)) rfl) h7 (fun h8 h9 => ?_)
    refine y_sB hR hy ya43 yl43 (e_add (e_n 8) rfl) h4 rfl h9 (fun g13 m11 hR12 => ?_)
    refine rf_ck (fun h14 => ?_)
    exact rf_ok (by exact ⟨⟨(e_add rfl (e_n 1)), h14⟩, hR12⟩)
  · exact rf_ok (by exact hR)
noncomputable def NL_Y_field_384 (v5 : Int) (v7 : Int) (m : YS) : Option (YS) :=
  it (fun s : Int × YS => nb_Y_field_384 v5 s.1 s.2) (v7, m)
theorem fL_Y_field_384 {w y : Prop} {g : g_S} {n : NS} {m : YS} (hy : y) {xv5 : Int32} {v5 : Int} (ev5 : xv5 = Int32.ofInt v5) (rv5 : inR v5) {xv7 : Int32} {v7 : Int} (ev7 : xv7 = Int32.ofInt v7) (rv7 : inR v7) (hR : RC w y g n m) : Rf (fun a b => RC w y a n b) (L_Y_field_384 1838 xv5 xv7 g) (NL_Y_field_384 v5 v7 m) := by
  subst ev5
  subst ev7
  unfold L_Y_field_384 NL_Y_field_384
  refine rf_it (I := (fun a b => RI a.1 b.1 ∧ RC w y a.2 n b.2)) (fun s t h => ?_) ⟨⟨rfl, rv7⟩, hR⟩
  exact fb_Y_field_384 hy rfl rv5 h.1.1 h.1.2 h.2
theorem NL_Y_field_384_eq (v5 : Int) (v7 : Int) (m : YS) : NL_Y_field_384 v5 v7 m = itc (nb_Y_field_384 v5 v7 m) (fun s => NL_Y_field_384 v5 s.1 s.2) := it_eq2 (fun s : Int × YS => nb_Y_field_384 v5 s.1 s.2) (v7, m)
noncomputable def nb_Y_field_136 (v2 : Int) (v5 : Int) (v6 : Int) (v7 : Int) (m : YS) : Option ((Int × Int × Int) ⊕ (Int × Int)) :=
  if v7 < v2 then
    if v6 = 0 then
      some (.inr (v5, v6))
    else
      ix v7 2000 <|
      (N_Y_isDigit (m 2 v7) m).bind fun z7 =>
      ck (10 * v5) <|
      ix v7 2000 <|
      ck ((10 * v5) + (m 2 v7)) <|
      ck (((10 * v5) + (m 2 v7)) - 48) <|
      ck (v7 + 1) <|
      some (.inl (((10 * v5) + (m 2 v7)) - 48, z7, v7 + 1))
  else
    some (.inr (v5, v6))
theorem fb_Y_field_136 {w y : Prop} {g : g_S} {n : NS} {m : YS} (hy : y) {xv2 : Int32} {v2 : Int} (ev2 : xv2 = Int32.ofInt v2) (rv2 : inR v2) {xv5 : Int32} {v5 : Int} (ev5 : xv5 = Int32.ofInt v5) (rv5 : inR v5) {xv6 : Int32} {v6 : Int} (ev6 : xv6 = Int32.ofInt v6) (rv6 : inR v6) {xv7 : Int32} {v7 : Int} (ev7 : xv7 = Int32.ofInt v7) (rv7 : inR v7) (hR : RC w y g n m) : Rf (RS (fun a b => RI a.1 b.1 ∧ RI a.2.1 b.2.1 ∧ RI a.2.2 b.2.2) (fun a b => RI a.1 b.1 ∧ RI a.2 b.2)) (b_Y_field_136 1838 xv2 xv5 xv6 xv7 g) (nb_Y_field_136 v2 v5 v6 v7 m) := by
  subst ev2
  subst ev5
  subst ev6
  subst ev7
  unfold b_Y_field_136 nb_Y_field_136
  refine rf_lt rfl rfl rv7 rv2 ?_ ?_
  · refine rf_eq rfl (e_n 0) rv6 (show inR 0 by decide) ?_ ?_
    · exact rf_ok (by exact ⟨⟨rfl, rv5⟩, ⟨rfl, rv6⟩⟩)
    · refine y_Q hR hy ya2.1 (by decide) ?_
      refine y_aB hR hy ya2 yl2 rfl rv7 (fun h4 h5 => ?_)
      refine rf_bind (f_Y_isDigit hy rfl (inB.r h5) hR) (fun a9 z7 h => ?_)
      obtain ⟨rfl, r8⟩ := h
      refine rf_ck (fun h10 => ?_)
      refine y_Q hR hy ya2.1 (by decide) ?_
      refine y_aB hR hy ya2 yl2 rfl rv7 (fun h12 h13 => ?_)
      refine rf_ck (fun h14 => ?_)
      refine rf_ck (fun h15 => ?_)
      refine rf_ck (fun h16 => ?_)
      exact rf_ok (by exact ⟨⟨(e_sub (e_add (e_mul (e_n 10) rfl) rfl) (e_n 48)), h15⟩, ⟨rfl, (inZ.r r8)⟩, ⟨(e_add rfl (e_n 1)), h16⟩⟩)
  · exact rf_ok (by exact ⟨⟨rfl, rv5⟩, ⟨rfl, rv6⟩⟩)
noncomputable def NL_Y_field_136 (v2 : Int) (v5 : Int) (v6 : Int) (v7 : Int) (m : YS) : Option (Int × Int) :=
  it (fun s : Int × Int × Int => nb_Y_field_136 v2 s.1 s.2.1 s.2.2 m) (v5, v6, v7)
theorem fL_Y_field_136 {w y : Prop} {g : g_S} {n : NS} {m : YS} (hy : y) {xv2 : Int32} {v2 : Int} (ev2 : xv2 = Int32.ofInt v2) (rv2 : inR v2) {xv5 : Int32} {v5 : Int} (ev5 : xv5 = Int32.ofInt v5) (rv5 : inR v5) {xv6 : Int32} {v6 : Int} (ev6 : xv6 = Int32.ofInt v6) (rv6 : inR v6) {xv7 : Int32} {v7 : Int} (ev7 : xv7 = Int32.ofInt v7) (rv7 : inR v7) (hR : RC w y g n m) : Rf (fun a b => RI a.1 b.1 ∧ RI a.2 b.2) (L_Y_field_136 1838 xv2 xv5 xv6 xv7 g) (NL_Y_field_136 v2 v5 v6 v7 m) := by
  subst ev2
  subst ev5
  subst ev6
  subst ev7
  unfold L_Y_field_136 NL_Y_field_136
  refine rf_it (I := (fun a b => RI a.1 b.1 ∧ RI a.2.1 b.2.1 ∧ RI a.2.2 b.2.2)) (fun s t h => ?_) ⟨⟨rfl, rv5⟩, ⟨rfl, rv6⟩, ⟨rfl, rv7⟩⟩
  exact fb_Y_field_136 hy rfl rv2 h.1.1 h.1.2 h.2.1.1 h.2.1.2 h.2.2.1 h.2.2.2 hR
theorem NL_Y_field_136_eq (v2 : Int) (v5 : Int) (v6 : Int) (v7 : Int) (m : YS) : NL_Y_field_136 v2 v5 v6 v7 m = itc (nb_Y_field_136 v2 v5 v6 v7 m) (fun s => NL_Y_field_136 v2 s.1 s.2.1 s.2.2 m) := it_eq2 (fun s : Int × Int × Int => nb_Y_field_136 v2 s.1 s.2.1 s.2.2 m) (v5, v6, v7)
noncomputable def nk_Y_field_423 (v1 : Int) (v2 : Int) (v3 : Int) (v4 : Int) (m : YS) : Option (Int × YS) :=
  if v4 = 2 then
    (N_Y_isWord 2 v1 v3 500 m).bind fun z5 =>
    if z5 = 0 then
      some (0, m)
    else
      if 0 < (m 41 0) then
        some (0, m)
      else
        ck (v3 + 1) <|
        (N_Y_refer 2 (v3 + 1) v2 3 m).bind <| u2 fun z16 m19 =>
        if z16 = 0 then
          some (0, m19)
        else
          st (yw m19 41 0 1) fun m25 =>
          (N_Y_copyRow 4 0 m25).bind fun m29 =>
          ix 4 66 <|
          st (yw m29 8 4 0) fun m34 =>
          some (1, m34)
  else
    some (0, m)
theorem fk_Y_field_423 {w y : Prop} {g : g_S} {n : NS} {m : YS} (hy : y) {xv1 : Int32} {v1 : Int} (ev1 : xv1 = Int32.ofInt v1) (rv1 : inR v1) {xv2 : Int32} {v2 : Int} (ev2 : xv2 = Int32.ofInt v2) (rv2 : inR v2) {xv3 : Int32} {v3 : Int} (ev3 : xv3 = Int32.ofInt v3) (rv3 : inR v3) {xv4 : Int32} {v4 : Int} (ev4 : xv4 = Int32.ofInt v4) (rv4 : inR v4) (hR : RC w y g n m) : Rf (fun a b => RZ a.1 b.1 ∧ RC w y a.2 n b.2) (k_Y_field_423 1838 xv1 xv2 xv3 xv4 g) (nk_Y_field_423 v1 v2 v3 v4 m) := by
  subst ev1
  subst ev2
  subst ev3
  subst ev4
  unfold k_Y_field_423 nk_Y_field_423
  refine rf_eq rfl (e_n 2) rv4 (show inR 2 by decide) ?_ ?_
  · refine y_Q hR hy ya2.1 (by decide) ?_
    refine rf_bind (f_Y_isWord hy rfl ya2 rfl rv1 rfl rv3 (f_n 500) (show inL 500 by decide) hR) (fun a7 z5 h => ?_)
    obtain ⟨rfl, r6⟩ := h
    refine rf_eq rfl (e_n 0) (inZ.r r6) (show inR 0 by decide) ?_ ?_
    · exact rf_ok (by exact ⟨⟨(e_n 0), (.inl rfl)⟩, hR⟩)
    · refine y_I hR hy yk41 yt41 (fun h10 => ?_)
      refine rf_lt (e_n 0) rfl (show inR 0 by decide) h10 ?_ ?_
      · exact rf_ok (by exact ⟨⟨(e_n 0), (.inl rfl)⟩, hR⟩)
      · refine y_Q hR hy ya2.1 (by decide) ?_
        refine rf_ck (fun h14 => ?_)
        refine v_c2 (y_gt hR hy) ?_
        refine rf_c2 (f_Y_refer hy rfl ya2 (e_add rfl (e_n 1)) h14 rfl rv2 (e_n 3) (show inR 3 by decide) hR) (fun a18 g21 b h => ?_)
        obtain ⟨z16, m19⟩ := b
        refine rf_v2 ?_
        obtain ⟨rfl, r17⟩ := (show RZ a18 z16 from h.1)
        have hR20 : RC w y g21 n m19 := h.2
        refine rf_eq rfl (e_n 0) (inZ.r r17) (show inR 0 by decide) ?_ ?_
        · exact rf_ok (by exact ⟨⟨(e_n 0), (.inl rfl)⟩, hR20⟩)
        · refine y_pI hR20 hy yk41 ⟨yt41, yz41⟩ (e_n 1) (show inR 1 by decide) (fun g27 m25 hR26 => ?_)
          refine v_c (y_gt hR26 hy) ?_
          refine rf_bind (f_Y_copyRow hy (e_n 4) (show inR 4 by decide) (e_n 0) (show inR 0 by decide) hR26) (fun g31 m29 hR30 => ?_)
          refine y_Q hR30 hy ya8.1 (by decide) ?_
          refine y_sI hR30 hy ya8 yl8 (e_n 4) (show inR 4 by decide) (e_n 0) (show inR 0 by decide) (fun g36 m34 hR35 => ?_)
          exact rf_ok (by exact ⟨⟨(e_n 1), (.inr rfl)⟩, hR35⟩)
  · exact rf_ok (by exact ⟨⟨(e_n 0), (.inl rfl)⟩, hR⟩)
noncomputable def nk_Y_field_223 (v1 : Int) (v2 : Int) (v3 : Int) (v4 : Int) (m : YS) : Option (Int × YS) :=
  if v4 = 6 then
    (N_Y_isWord 2 v1 v3 177585635 m).bind fun z5 =>
    if z5 = 0 then
      nk_Y_field_423 v1 v2 v3 v4 m
    else
      ck (v3 + 1) <|
      (N_Y_nameEnd 2 (v3 + 1) v2 m).bind fun z12 =>
      ck (v3 + 1) <|
      if z12 = (v3 + 1) then
        some (0, m)
      else
        if z12 < v2 then
          ix z12 2000 <|
          if (m 2 z12) = 58 then
            if 0 < (m 39 0) then
              some (0, m)
            else
              ck (z12 + 1) <|
              (N_Y_nameEnd 2 (z12 + 1) v2 m).bind fun z29 =>
              ck (z12 + 1) <|
              if z29 = (z12 + 1) then
                some (0, m)
              else
                if z29 = v2 then
                  ck (z12 - v3) <|
                  ck ((z12 - v3) - 1) <|
                  st (yw m 39 0 ((z12 - v3) - 1)) fun m39 =>
                  ck (z29 - z12) <|
                  ck ((z29 - z12) - 1) <|
                  st (yw m39 40 0 ((z29 - z12) - 1)) fun m45 =>
                  (NL_Y_field_348 v3 z12 0 m45).bind <| fun m48 =>
                  (NL_Y_field_384 z12 0 m48).bind <| fun m51 =>
                  some (1, m51)
                else
                  some (0, m)
          else
            some (0, m)
        else
          some (0, m)
  else
    nk_Y_field_423 v1 v2 v3 v4 m
theorem fk_Y_field_223 {w y : Prop} {g : g_S} {n : NS} {m : YS} (hy : y) {xv1 : Int32} {v1 : Int} (ev1 : xv1 = Int32.ofInt v1) (rv1 : inR v1) {xv2 : Int32} {v2 : Int} (ev2 : xv2 = Int32.ofInt v2) (rv2 : inR v2) {xv3 : Int32} {v3 : Int} (ev3 : xv3 = Int32.ofInt v3) (rv3 : inR v3) {xv4 : Int32} {v4 : Int} (ev4 : xv4 = Int32.ofInt v4) (rv4 : inR v4) (hR : RC w y g n m) : Rf (fun a b => RZ a.1 b.1 ∧ RC w y a.2 n b.2) (k_Y_field_223 1838 xv1 xv2 xv3 xv4 g) (nk_Y_field_223 v1 v2 v3 v4 m) := by
  subst ev1
  subst ev2
  subst ev3
  subst ev4
  unfold k_Y_field_223 nk_Y_field_223
  refine rf_eq rfl (e_n 6) rv4 (show inR 6 by decide) ?_ ?_
  · refine y_Q hR hy ya2.1 (by decide) ?_
    refine rf_bind (f_Y_isWord hy rfl ya2 rfl rv1 rfl rv3 (f_n 177585635) (show inL 177585635 by decide) hR) (fun a7 z5 h => ?_)
    obtain ⟨rfl, r6⟩ := h
    refine rf_eq rfl (e_n 0) (inZ.r r6) (show inR 0 by decide) ?_ ?_
    · exact fk_Y_field_423 hy rfl rv1 rfl rv2 rfl rv3 rfl rv4 hR
    · refine y_Q hR hy ya2.1 (by decide) ?_
      refine rf_ck (fun h10 => ?_)
      refine rf_bind (f_Y_nameEnd hy rfl ya2 (e_add rfl (e_n 1)) h10 rfl rv2 hR) (fun a14 z12 h => ?_)
      obtain ⟨rfl, r13⟩ := h
      refine rf_ck (fun h15 => ?_)
      refine rf_eq rfl (e_add rfl (e_n 1)) r13 h15 ?_ ?_
      · exact rf_ok (by exact ⟨⟨(e_n 0), (.inl rfl)⟩, hR⟩)
      · refine rf_lt rfl rfl r13 rv2 ?_ ?_
        · refine y_Q hR hy ya2.1 (by decide) ?_
          refine y_aB hR hy ya2 yl2 rfl r13 (fun h20 h21 => ?_)
          refine rf_eq rfl (e_n 58) (inB.r h21) (show inR 58 by decide) ?_ ?_
          · refine y_I hR hy yk39 yt39 (fun h23 => ?_)
            refine rf_lt (e_n 0) rfl (show inR 0 by decide) h23 ?_ ?_
            · exact rf_ok (by exact ⟨⟨(e_n 0), (.inl rfl)⟩, hR⟩)
            · refine y_Q hR hy ya2.1 (by decide) ?_
              refine rf_ck (fun h27 => ?_)
              refine rf_bind (f_Y_nameEnd hy rfl ya2 (e_add rfl (e_n 1)) h27 rfl rv2 hR) (fun a31 z29 h => ?_)
              obtain ⟨rfl, r30⟩ := h
              refine rf_ck (fun h32 => ?_)
              refine rf_eq rfl (e_add rfl (e_n 1)) r30 h32 ?_ ?_
              · exact rf_ok (by exact ⟨⟨(e_n 0), (.inl rfl)⟩, hR⟩)
              · refine rf_eq rfl rfl r30 rv2 ?_ ?_
                · refine rf_ck (fun h36 => ?_)
                  refine rf_ck (fun h37 => ?_)
                  refine y_pI hR hy yk39 ⟨yt39, yz39⟩ (e_sub (e_sub rfl rfl) (e_n 1)) h37 (fun g41 m39 hR40 => ?_)
                  refine rf_ck (fun h42 => ?_)
                  refine rf_ck (fun h43 => ?_)
                  refine y_pI hR40 hy yk40 ⟨yt40, yz40⟩ (e_sub (e_sub rfl rfl) (e_n 1)) h43 (fun g47 m45 hR46 => ?_)
                  refine rf_bind (fL_Y_field_348 hy rfl rv3 rfl r13 (e_n 0) (show inR 0 by decide) hR46) (fun a49 m48 h => ?_)
                  have hR50 : RC w y a49 n m48 := h
                  refine rf_bind (fL_Y_field_384 hy rfl r13 (e_n 0) (show inR 0 by decide) hR50) (fun a52 m51 h => ?_)
                  have hR53 : RC w y a52 n m51 := h
                  exact rf_ok (by exact ⟨⟨(e_n 1), (.inr rfl)⟩, hR53⟩)
                · exact rf_ok (by exact ⟨⟨(e_n 0), (.inl rfl)⟩, hR⟩)
          · exact rf_ok (by exact ⟨⟨(e_n 0), (.inl rfl)⟩, hR⟩)
        · exact rf_ok (by exact ⟨⟨(e_n 0), (.inl rfl)⟩, hR⟩)
  · exact fk_Y_field_423 hy rfl rv1 rfl rv2 rfl rv3 rfl rv4 hR
noncomputable def nk_Y_field_217 (v6 : Int) (w0 : Int) (m : YS) : Option (Int × YS) :=
  st (yw m 38 0 w0) fun m2 =>
  cz v6 <|
  some (v6, m2)
theorem fk_Y_field_217 {w y : Prop} {g : g_S} {n : NS} {m : YS} (hy : y) {xv6 : Int32} {v6 : Int} (ev6 : xv6 = Int32.ofInt v6) (rv6 : inR v6) {xw0 : Int32} {w0 : Int} (ew0 : xw0 = Int32.ofInt w0) (rw0 : inR w0) (hR : RC w y g n m) : Rf (fun a b => RZ a.1 b.1 ∧ RC w y a.2 n b.2) (k_Y_field_217 xv6 xw0 1838 g) (nk_Y_field_217 v6 w0 m) := by
  subst ev6
  subst ew0
  unfold k_Y_field_217 nk_Y_field_217
  refine y_pI hR hy yk38 ⟨yt38, yz38⟩ rfl rw0 (fun g4 m2 hR3 => ?_)
  refine rf_cz (fun h6 => ?_)
  refine rf_tz rfl h6 ?_
  exact rf_ok (by exact ⟨⟨rfl, h6⟩, hR3⟩)
noncomputable def nk_Y_field_200 (v5 : Int) (w0 : Int) (m : YS) : Option (Int × YS) :=
  if w0 = 0 then
    nk_Y_field_217 w0 (m 38 0) m
  else
    nk_Y_field_217 w0 v5 m
theorem fk_Y_field_200 {w y : Prop} {g : g_S} {n : NS} {m : YS} (hy : y) {xv5 : Int32} {v5 : Int} (ev5 : xv5 = Int32.ofInt v5) (rv5 : inR v5) {xw0 : Int32} {w0 : Int} (ew0 : xw0 = Int32.ofInt w0) (rw0 : inR w0) (hR : RC w y g n m) : Rf (fun a b => RZ a.1 b.1 ∧ RC w y a.2 n b.2) (k_Y_field_200 1838 xv5 xw0 g) (nk_Y_field_200 v5 w0 m) := by
  subst ev5
  subst ew0
  unfold k_Y_field_200 nk_Y_field_200
  refine rf_eq rfl (e_n 0) rw0 (show inR 0 by decide) ?_ ?_
  · refine y_I hR hy yk38 yt38 (fun h2 => ?_)
    exact fk_Y_field_217 hy rfl rw0 rfl h2 hR
  · exact fk_Y_field_217 hy rfl rw0 rfl rv5 hR
noncomputable def nk_Y_field_199 (v5 : Int) (m : YS) : Option (Int × YS) :=
  nk_Y_field_200 v5 0 m
theorem fk_Y_field_199 {w y : Prop} {g : g_S} {n : NS} {m : YS} (hy : y) {xv5 : Int32} {v5 : Int} (ev5 : xv5 = Int32.ofInt v5) (rv5 : inR v5) (hR : RC w y g n m) : Rf (fun a b => RZ a.1 b.1 ∧ RC w y a.2 n b.2) (k_Y_field_199 1838 xv5 g) (nk_Y_field_199 v5 m) := by
  subst ev5
  unfold k_Y_field_199 nk_Y_field_199
  exact fk_Y_field_200 hy rfl rv5 (e_n 0) (show inR 0 by decide) hR
noncomputable def nk_Y_field_183 (v5 : Int) (v6 : Int) (m : YS) : Option (Int × YS) :=
  if v6 = 0 then
    nk_Y_field_199 v5 m
  else
    if (m 38 0) < 0 then
      nk_Y_field_200 v5 1 m
    else
      nk_Y_field_199 v5 m
theorem fk_Y_field_183 {w y : Prop} {g : g_S} {n : NS} {m : YS} (hy : y) {xv5 : Int32} {v5 : Int} (ev5 : xv5 = Int32.ofInt v5) (rv5 : inR v5) {xv6 : Int32} {v6 : Int} (ev6 : xv6 = Int32.ofInt v6) (rv6 : inR v6) (hR : RC w y g n m) : Rf (fun a b => RZ a.1 b.1 ∧ RC w y a.2 n b.2) (k_Y_field_183 1838 xv5 xv6 g) (nk_Y_field_183 v5 v6 m) := by
  subst ev5
  subst ev6
  unfold k_Y_field_183 nk_Y_field_183
  refine rf_eq rfl (e_n 0) rv6 (show inR 0 by decide) ?_ ?_
  · exact fk_Y_field_199 hy rfl rv5 hR
  · refine y_I hR hy yk38 yt38 (fun h2 => ?_)
    refine rf_lt rfl (e_n 0) h2 (show inR 0 by decide) ?_ ?_
    · exact fk_Y_field_200 hy rfl rv5 (e_n 1) (show inR 1 by decide) hR
    · exact fk_Y_field_199 hy rfl rv5 hR
noncomputable def nk_Y_field_129 (v2 : Int) (v3 : Int) (v5 : Int) (w0 : Int) (m : YS) : Option (Int × YS) :=
  ck (v3 + 1) <|
  (NL_Y_field_136 v2 v5 w0 (v3 + 1) m).bind <| u2 fun z2 z3 =>
  nk_Y_field_183 z2 z3 m
theorem fk_Y_field_129 {w y : Prop} {g : g_S} {n : NS} {m : YS} (hy : y) {xv2 : Int32} {v2 : Int} (ev2 : xv2 = Int32.ofInt v2) (rv2 : inR v2) {xv3 : Int32} {v3 : Int} (ev3 : xv3 = Int32.ofInt v3) (rv3 : inR v3) {xv5 : Int32} {v5 : Int} (ev5 : xv5 = Int32.ofInt v5) (rv5 : inR v5) {xw0 : Int32} {w0 : Int} (ew0 : xw0 = Int32.ofInt w0) (rw0 : inR w0) (hR : RC w y g n m) : Rf (fun a b => RZ a.1 b.1 ∧ RC w y a.2 n b.2) (k_Y_field_129 1838 xv2 xv3 xv5 xw0 g) (nk_Y_field_129 v2 v3 v5 w0 m) := by
  subst ev2
  subst ev3
  subst ev5
  subst ew0
  unfold k_Y_field_129 nk_Y_field_129
  refine rf_ck (fun h1 => ?_)
  refine rf_bind (fL_Y_field_136 hy rfl rv2 rfl rv5 rfl rw0 (e_add rfl (e_n 1)) h1 hR) (fun a b h => ?_)
  obtain ⟨a4, a5⟩ := a
  obtain ⟨z2, z3⟩ := b
  refine rf_u2 ?_
  obtain ⟨rfl, r6⟩ := (show RI a4 z2 from h.1)
  obtain ⟨rfl, r7⟩ := (show RI a5 z3 from h.2)
  exact fk_Y_field_183 hy rfl r6 rfl r7 hR
noncomputable def nk_Y_field_128 (v2 : Int) (v3 : Int) (v5 : Int) (m : YS) : Option (Int × YS) :=
  nk_Y_field_129 v2 v3 v5 0 m
theorem fk_Y_field_128 {w y : Prop} {g : g_S} {n : NS} {m : YS} (hy : y) {xv2 : Int32} {v2 : Int} (ev2 : xv2 = Int32.ofInt v2) (rv2 : inR v2) {xv3 : Int32} {v3 : Int} (ev3 : xv3 = Int32.ofInt v3) (rv3 : inR v3) {xv5 : Int32} {v5 : Int} (ev5 : xv5 = Int32.ofInt v5) (rv5 : inR v5) (hR : RC w y g n m) : Rf (fun a b => RZ a.1 b.1 ∧ RC w y a.2 n b.2) (k_Y_field_128 1838 xv2 xv3 xv5 g) (nk_Y_field_128 v2 v3 v5 m) := by
  subst ev2
  subst ev3
  subst ev5
  unfold k_Y_field_128 nk_Y_field_128
  exact fk_Y_field_129 hy rfl rv2 rfl rv3 rfl rv5 (e_n 0) (show inR 0 by decide) hR
noncomputable def nk_Y_field_70 (v1 : Int) (v2 : Int) (v3 : Int) (m : YS) : Option (Int × YS) :=
  if v3 = v2 then
    some (0, m)
  else
    ck (v3 - v1) <|
    if (v3 - v1) = 3 then
      (N_Y_isWord 2 v1 v3 5345 m).bind fun z8 =>
      if z8 = 0 then
        nk_Y_field_223 v1 v2 v3 (v3 - v1) m
      else
        ck (v2 - v3) <|
        ck ((v2 - v3) - 1) <|
        if ((v2 - v3) - 1) < 1 then
          nk_Y_field_128 v2 v3 0 m
        else
          ck (v2 - v3) <|
          ck ((v2 - v3) - 1) <|
          if 4 < ((v2 - v3) - 1) then
            nk_Y_field_128 v2 v3 0 m
          else
            nk_Y_field_129 v2 v3 0 1 m
    else
      nk_Y_field_223 v1 v2 v3 (v3 - v1) m
theorem fk_Y_field_70 {w y : Prop} {g : g_S} {n : NS} {m : YS} (hy : y) {xv1 : Int32} {v1 : Int} (ev1 : xv1 = Int32.ofInt v1) (rv1 : inR v1) {xv2 : Int32} {v2 : Int} (ev2 : xv2 = Int32.ofInt v2) (rv2 : inR v2) {xv3 : Int32} {v3 : Int} (ev3 : xv3 = Int32.ofInt v3) (rv3 : inR v3) (hR : RC w y g n m) : Rf (fun a b => RZ a.1 b.1 ∧ RC w y a.2 n b.2) (k_Y_field_70 1838 xv1 xv2 xv3 g) (nk_Y_field_70 v1 v2 v3 m) := by
  subst ev1
  subst ev2
  subst ev3
  unfold k_Y_field_70 nk_Y_field_70
  refine rf_eq rfl rfl rv3 rv2 ?_ ?_
  · exact rf_ok (by exact ⟨⟨(e_n 0), (.inl rfl)⟩, hR⟩)
  · refine rf_ck (fun h3 => ?_)
    refine rf_eq (e_sub rfl rfl) (e_n 3) h3 (show inR 3 by decide) ?_ ?_
    · refine y_Q hR hy ya2.1 (by decide) ?_
      refine rf_bind (f_Y_isWord hy rfl ya2 rfl rv1 rfl rv3 (f_n 5345) (show inL 5345 by decide) hR) (fun a10 z8 h => ?_)
      obtain ⟨rfl, r9⟩ := h
      refine rf_eq rfl (e_n 0) (inZ.r r9) (show inR 0 by decide) ?_ ?_
      · exact fk_Y_field_223 hy rfl rv1 rfl rv2 rfl rv3 (e_sub rfl rfl) h3 hR
      · refine rf_ck (fun h12 => ?_)
        refine rf_ck (fun h13 => ?_)
        refine rf_lt (e_sub (e_sub rfl rfl) (e_n 1)) (e_n 1) h13 (show inR 1 by decide) ?_ ?_
        · exact fk_Y_field_128 hy rfl rv2 rfl rv3 (e_n 0) (show inR 0 by decide) hR
        · refine rf_ck (fun h15 => ?_)
          refine rf_ck (fun h16 => ?_)
          refine rf_lt (e_n 4) (e_sub (e_sub rfl rfl) (e_n 1)) (show inR 4 by decide) h16 ?_ ?_
          · exact fk_Y_field_128 hy rfl rv2 rfl rv3 (e_n 0) (show inR 0 by decide) hR
          · exact fk_Y_field_129 hy rfl rv2 rfl rv3 (e_n 0) (show inR 0 by decide) (e_n 1) (show inR 1 by decide) hR
    · exact fk_Y_field_223 hy rfl rv1 rfl rv2 rfl rv3 (e_sub rfl rfl) h3 hR
noncomputable def nk_Y_field_46 (v1 : Int) (v2 : Int) (m : YS) : Option (Int × YS) :=
  (NL_Y_field_48 v1 v2 v1 m).bind <| fun z1 =>
  nk_Y_field_70 v1 v2 z1 m
theorem fk_Y_field_46 {w y : Prop} {g : g_S} {n : NS} {m : YS} (hy : y) {xv1 : Int32} {v1 : Int} (ev1 : xv1 = Int32.ofInt v1) (rv1 : inR v1) {xv2 : Int32} {v2 : Int} (ev2 : xv2 = Int32.ofInt v2) (rv2 : inR v2) (hR : RC w y g n m) : Rf (fun a b => RZ a.1 b.1 ∧ RC w y a.2 n b.2) (k_Y_field_46 1838 xv1 xv2 g) (nk_Y_field_46 v1 v2 m) := by
  subst ev1
  subst ev2
  unfold k_Y_field_46 nk_Y_field_46
  refine rf_bind (fL_Y_field_48 hy rfl rv1 rfl rv2 rfl rv1 hR) (fun a2 z1 h => ?_)
  obtain ⟨rfl, r3⟩ := (show RI a2 z1 from h)
  exact fk_Y_field_70 hy rfl rv1 rfl rv2 rfl r3 hR
noncomputable def N_Y_field (v1 : Int) (v2 : Int) (m : YS) : Option (Int × YS) :=
  ck (v2 - v1) <|
  if (v2 - v1) = 4 then
    (N_Y_isWord 2 v1 v2 464399 m).bind fun z6 =>
    if z6 = 0 then
      nk_Y_field_46 v1 v2 m
    else
      ck ((m 42 0) + 1) <|
      st (yw m 42 0 ((m 42 0) + 1)) fun m13 =>
      if (m13 42 0) = 1 then
        some (1, m13)
      else
        some (0, m13)
  else
    nk_Y_field_46 v1 v2 m
theorem f_Y_field {w y : Prop} {g : g_S} {n : NS} {m : YS} (hy : y) {xv1 : Int32} {v1 : Int} (ev1 : xv1 = Int32.ofInt v1) (rv1 : inR v1) {xv2 : Int32} {v2 : Int} (ev2 : xv2 = Int32.ofInt v2) (rv2 : inR v2) (hR : RC w y g n m) : Rf (fun a b => RZ a.1 b.1 ∧ RC w y a.2 n b.2) (M_Y_field 1838 xv1 xv2 g) (N_Y_field v1 v2 m) := by
  subst ev1
  subst ev2
  unfold M_Y_field N_Y_field
  refine rf_ck (fun h1 => ?_)
  refine rf_eq (e_sub rfl rfl) (e_n 4) h1 (show inR 4 by decide) ?_ ?_
  · refine y_Q hR hy ya2.1 (by decide) ?_
    refine rf_bind (f_Y_isWord hy rfl ya2 rfl rv1 rfl rv2 (f_n 464399) (show inL 464399 by decide) hR) (fun a8 z6 h => ?_)
    obtain ⟨rfl, r7⟩ := h
    refine rf_eq rfl (e_n 0) (inZ.r r7) (show inR 0 by decide) ?_ ?_
    · exact fk_Y_field_46 hy rfl rv1 rfl rv2 hR
    · refine y_I hR hy yk42 yt42 (fun h10 => ?_)
      refine rf_ck (fun h11 => ?_)
      refine y_pI hR hy yk42 ⟨yt42, yz42⟩ (e_add rfl (e_n 1)) h11 (fun g15 m13 hR14 => ?_)
      refine y_I hR14 hy yk42 yt42 (fun h16 => ?_)
      refine rf_eq rfl (e_n 1) h16 (show inR 1 by decide) ?_ ?_
      · exact rf_ok (by exact ⟨⟨(e_n 1), (.inr rfl)⟩, hR14⟩)
      · exact rf_ok (by exact ⟨⟨(e_n 0), (.inl rfl)⟩, hR14⟩)
  · exact fk_Y_field_46 hy rfl rv1 rfl rv2 hR
noncomputable def nb_Y_same_3 (v0 : Nat) (v1 : Int) (v2 : Nat) (v3 : Int) (v4 : Int) (v5 : Int) (m : YS) : Option ((Int) ⊕ ((Unit) ⊕ (Unit))) :=
  if v5 < v4 then
    ck (v1 + v5) <|
    ix (v1 + v5) (yLn v0 : Int) <|
    ck (v3 + v5) <|
    ix (v3 + v5) (yLn v2 : Int) <|
    if (m v0 (v1 + v5)) = (m v2 (v3 + v5)) then
      ck (v5 + 1) <|
      some (.inl (v5 + 1))
    else
      some (.inr (.inl ()))
  else
    some (.inr (.inr ()))
theorem fb_Y_same_3 {w y : Prop} {g : g_S} {n : NS} {m : YS} (hy : y) {xv0 : Nat} {v0 : Nat} (ev0 : xv0 = yAd v0) (rv0 : v0 < 186 ∧ yT v0 = 1) {xv1 : Int32} {v1 : Int} (ev1 : xv1 = Int32.ofInt v1) (rv1 : inR v1) {xv2 : Nat} {v2 : Nat} (ev2 : xv2 = yAd v2) (rv2 : v2 < 186 ∧ yT v2 = 1) {xv3 : Int32} {v3 : Int} (ev3 : xv3 = Int32.ofInt v3) (rv3 : inR v3) {xv4 : Int32} {v4 : Int} (ev4 : xv4 = Int32.ofInt v4) (rv4 : inR v4) {xv5 : Int32} {v5 : Int} (ev5 : xv5 = Int32.ofInt v5) (rv5 : inR v5) (hR : RC w y g n m) : Rf (RS (fun a b => RI a b) (RS (fun _ _ => True) (fun _ _ => True))) (b_Y_same_3 xv0 xv1 xv2 xv3 xv4 xv5 g) (nb_Y_same_3 v0 v1 v2 v3 v4 v5 m) := by
  subst ev0
  subst ev1
  subst ev2
  subst ev3
  subst ev4
  subst ev5
  unfold b_Y_same_3 nb_Y_same_3
  refine rf_lt rfl rfl rv5 rv4 ?_ ?_
  · refine rf_ck (fun h2 => ?_)
    refine y_aB hR hy rv0 rfl (e_add rfl rfl) h2 (fun h3 h4 => ?_)
    refine rf_ck (fun h5 => ?_)
    refine y_aB hR hy rv2 rfl (e_add rfl rfl) h5 (fun h6 h7 => ?_)
    refine rf_eq rfl rfl (inB.r h4) (inB.r h7) ?_ ?_
    · refine rf_ck (fun h9 => ?_)
      exact rf_ok (by exact ⟨(e_add rfl (e_n 1)), h9⟩)
    · exact rf_ok (by exact trivial)
  · exact rf_ok (by exact trivial)
noncomputable def NL_Y_same_3 (v0 : Nat) (v1 : Int) (v2 : Nat) (v3 : Int) (v4 : Int) (v5 : Int) (m : YS) : Option ((Unit) ⊕ (Unit)) :=
  it (fun s : Int => nb_Y_same_3 v0 v1 v2 v3 v4 s m) (v5)
theorem fL_Y_same_3 {w y : Prop} {g : g_S} {n : NS} {m : YS} (hy : y) {xv0 : Nat} {v0 : Nat} (ev0 : xv0 = yAd v0) (rv0 : v0 < 186 ∧ yT v0 = 1) {xv1 : Int32} {v1 : Int} (ev1 : xv1 = Int32.ofInt v1) (rv1 : inR v1) {xv2 : Nat} {v2 : Nat} (ev2 : xv2 = yAd v2) (rv2 : v2 < 186 ∧ yT v2 = 1) {xv3 : Int32} {v3 : Int} (ev3 : xv3 = Int32.ofInt v3) (rv3 : inR v3) {xv4 : Int32} {v4 : Int} (ev4 : xv4 = Int32.ofInt v4) (rv4 : inR v4) {xv5 : Int32} {v5 : Int} (ev5 : xv5 = Int32.ofInt v5) (rv5 : inR v5) (hR : RC w y g n m) : Rf (RS (fun _ _ => True) (fun _ _ => True)) (L_Y_same_3 xv0 xv1 xv2 xv3 xv4 xv5 g) (NL_Y_same_3 v0 v1 v2 v3 v4 v5 m) := by
  subst ev0
  subst ev1
  subst ev2
  subst ev3
  subst ev4
  subst ev5
  unfold L_Y_same_3 NL_Y_same_3
  refine rf_it (I := (fun a b => RI a b)) (fun s t h => ?_) ⟨rfl, rv5⟩
  exact fb_Y_same_3 hy rfl rv0 rfl rv1 rfl rv2 rfl rv3 rfl rv4 h.1 h.2 hR
theorem NL_Y_same_3_eq (v0 : Nat) (v1 : Int) (v2 : Nat) (v3 : Int) (v4 : Int) (v5 : Int) (m : YS) : NL_Y_same_3 v0 v1 v2 v3 v4 v5 m = itc (nb_Y_same_3 v0 v1 v2 v3 v4 v5 m) (fun s => NL_Y_same_3 v0 v1 v2 v3 v4 s m) := it_eq2 (fun s : Int => nb_Y_same_3 v0 v1 v2 v3 v4 s m) (v5)
noncomputable def N_Y_same (v0 : Nat) (v1 : Int) (v2 : Nat) (v3 : Int) (v4 : Int) (m : YS) : Option (Int) :=
  (NL_Y_same_3 v0 v1 v2 v3 v4 0 m).bind <|
    us (fun _ =>
    some 0)
    (fun _ =>
    some 1)
theorem f_Y_same {w y : Prop} {g : g_S} {n : NS} {m : YS} (hy : y) {xv0 : Nat} {v0 : Nat} (ev0 : xv0 = yAd v0) (rv0 : v0 < 186 ∧ yT v0 = 1) {xv1 : Int32} {v1 : Int} (ev1 : xv1 = Int32.ofInt v1) (rv1 : inR v1) {xv2 : Nat} {v2 : Nat} (ev2 : xv2 = yAd v2) (rv2 : v2 < 186 ∧ yT v2 = 1) {xv3 : Int32} {v3 : Int} (ev3 : xv3 = Int32.ofInt v3) (rv3 : inR v3) {xv4 : Int32} {v4 : Int} (ev4 : xv4 = Int32.ofInt v4) (rv4 : inR v4) (hR : RC w y g n m) : Rf (fun a b => RZ a b) (M_Y_same xv0 xv1 xv2 xv3 xv4 g) (N_Y_same v0 v1 v2 v3 v4 m) := by
  subst ev0
  subst ev1
  subst ev2
  subst ev3
  subst ev4
  unfold M_Y_same N_Y_same
  refine rf_bind (fL_Y_same_3 hy rfl rv0 rfl rv1 rfl rv2 rfl rv3 rfl rv4 (e_n 0) (show inR 0 by decide) hR) (fun a b h => rf_us h (fun a b h => ?_) (fun a b h => ?_))
  · exact rf_ok (by exact ⟨(e_n 0), (.inl rfl)⟩)
  · exact rf_ok (by exact ⟨(e_n 1), (.inr rfl)⟩)
noncomputable def N_Y_alike (v1 : Int) (v2 : Int) (m : YS) : Option (Int) :=
  ix v1 66 <|
  ix v2 66 <|
  if (m 7 v1) = (m 7 v2) then
    ck (v1 * 150) <|
    ck (v2 * 150) <|
    ix v1 66 <|
    (N_Y_same 6 (v1 * 150) 6 (v2 * 150) (m 7 v1) m).bind fun z16 =>
    if z16 = 0 then
      some 0
    else
      some 1
  else
    some 0
theorem f_Y_alike {w y : Prop} {g : g_S} {n : NS} {m : YS} (hy : y) {xv1 : Int32} {v1 : Int} (ev1 : xv1 = Int32.ofInt v1) (rv1 : inR v1) {xv2 : Int32} {v2 : Int} (ev2 : xv2 = Int32.ofInt v2) (rv2 : inR v2) (hR : RC w y g n m) : Rf (fun a b => RZ a b) (M_Y_alike 1838 xv1 xv2 g) (N_Y_alike v1 v2 m) := by
  subst ev1
  subst ev2
  unfold M_Y_alike N_Y_alike
  refine y_Q hR hy ya7.1 (by decide) ?_
  refine y_aI hR hy ya7 yl7 rfl rv1 (fun h2 h3 => ?_)
  refine y_Q hR hy ya7.1 (by decide) ?_
  refine y_aI hR hy ya7 yl7 rfl rv2 (fun h5 h6 => ?_)
  refine rf_eq rfl rfl h3 h6 ?_ ?_
  · refine y_Q hR hy ya6.1 (by decide) ?_
    refine rf_ck (fun h9 => ?_)
    refine y_Q hR hy ya6.1 (by decide) ?_
    refine rf_ck (fun h11 => ?_)
    refine y_Q hR hy ya7.1 (by decide) ?_
    refine y_aI hR hy ya7 yl7 rfl rv1 (fun h13 h14 => ?_)
    refine rf_bind (f_Y_same hy rfl ya6 (e_mul rfl (e_n 150)) h9 rfl ya6 (e_mul rfl (e_n 150)) h11 rfl h14 hR) (fun a18 z16 h => ?_)
    obtain ⟨rfl, r17⟩ := h
    refine rf_eq rfl (e_n 0) (inZ.r r17) (show inR 0 by decide) ?_ ?_
    · exact rf_ok (by exact ⟨(e_n 0), (.inl rfl)⟩)
    · exact rf_ok (by exact ⟨(e_n 1), (.inr rfl)⟩)
  · exact rf_ok (by exact ⟨(e_n 0), (.inl rfl)⟩)
noncomputable def nb_Y_server_193 (v2 : Int) (v3 : Int) (m : YS) : Option ((Int) ⊕ (Int)) :=
  if v3 < (m 16 0) then
    ck (6 + v3) <|
    (N_Y_alike (6 + v3) 3 m).bind fun z5 =>
    if z5 = 0 then
      ck (v3 + 1) <|
      some (.inl (v3 + 1))
    else
      some (.inr v3)
  else
    some (.inr v3)
theorem fb_Y_server_193 {w y : Prop} {g : g_S} {n : NS} {m : YS} (hy : y) {xv2 : Int32} {v2 : Int} (ev2 : xv2 = Int32.ofInt v2) (rv2 : inR v2) {xv3 : Int32} {v3 : Int} (ev3 : xv3 = Int32.ofInt v3) (rv3 : inR v3) (hR : RC w y g n m) : Rf (RS (fun a b => RI a b) (fun a b => RI a b)) (b_Y_server_193 1838 xv2 xv3 g) (nb_Y_server_193 v2 v3 m) := by
  subst ev2
  subst ev3
  unfold b_Y_server_193 nb_Y_server_193
  refine y_I hR hy yk16 yt16 (fun h1 => ?_)
  refine rf_lt rfl rfl rv3 h1 ?_ ?_
  · refine rf_ck (fun h3 => ?_)
    refine v_c (y_gt hR hy) ?_
    refine rf_bind (f_Y_alike hy (e_add (e_n 6) rfl) h3 (e_n 3) (show inR 3 by decide) hR) (fun a7 z5 h => ?_)
    obtain ⟨rfl, r6⟩ := h
    refine rf_eq rfl (e_n 0) (inZ.r r6) (show inR 0 by decide) ?_ ?_
    · refine rf_ck (fun h9 => ?_)
      exact rf_ok (by exact ⟨(e_add rfl (e_n 1)), h9⟩)
    · exact rf_ok (by exact ⟨rfl, rv3⟩)
  · exact rf_ok (by exact ⟨rfl, rv3⟩)
noncomputable def NL_Y_server_193 (v2 : Int) (v3 : Int) (m : YS) : Option (Int) :=
  it (fun s : Int => nb_Y_server_193 v2 s m) (v3)
theorem fL_Y_server_193 {w y : Prop} {g : g_S} {n : NS} {m : YS} (hy : y) {xv2 : Int32} {v2 : Int} (ev2 : xv2 = Int32.ofInt v2) (rv2 : inR v2) {xv3 : Int32} {v3 : Int} (ev3 : xv3 = Int32.ofInt v3) (rv3 : inR v3) (hR : RC w y g n m) : Rf (fun a b => RI a b) (L_Y_server_193 1838 xv2 xv3 g) (NL_Y_server_193 v2 v3 m) := by
  subst ev2
  subst ev3
  unfold L_Y_server_193 NL_Y_server_193
  refine rf_it (I := (fun a b => RI a b)) (fun s t h => ?_) ⟨rfl, rv3⟩
  exact fb_Y_server_193 hy rfl rv2 h.1 h.2 hR
theorem NL_Y_server_193_eq (v2 : Int) (v3 : Int) (m : YS) : NL_Y_server_193 v2 v3 m = itc (nb_Y_server_193 v2 v3 m) (fun s => NL_Y_server_193 v2 s m) := it_eq2 (fun s : Int => nb_Y_server_193 v2 s m) (v3)
noncomputable def nb_Y_server_348 (v3 : Int) (v4 : Int) (m : YS) : Option ((Int × YS) ⊕ (YS)) :=
  if v4 < 16 then
    ck (16 * v3) <|
    ck ((16 * v3) + v4) <|
    ix v4 16 <|
    ix ((16 * v3) + v4) 192 <|
    st (yw m 20 ((16 * v3) + v4) (m 43 v4)) fun m9 =>
    ck (v4 + 1) <|
    some (.inl (v4 + 1, m9))
  else
    some (.inr m)
theorem fb_Y_server_348 {w y : Prop} {g : g_S} {n : NS} {m : YS} (hy : y) {xv3 : Int32} {v3 : Int} (ev3 : xv3 = Int32.ofInt v3) (rv3 : inR v3) {xv4 : Int32} {v4 : Int} (ev4 : xv4 = Int32.ofInt v4) (rv4 : inR v4) (hR : RC w y g n m) : Rf (RS (fun a b => RI a.1 b.1 ∧ RC w y a.2 n b.2) (fun a b => RC w y a n b)) (b_Y_server_348 1838 xv3 xv4 g) (nb_Y_server_348 v3 v4 m) := by
  subst ev3
  subst ev4
  unfold b_Y_server_348 nb_Y_server_348
  refine rf_lt rfl (e_n 16) rv4 (show inR 16 by decide) ?_ ?_
  · refine y_Q hR hy ya20.1 (by decide) ?_
    refine rf_ck (fun h3 => ?_)
    refine rf_ck (fun h4 => ?_)
    refine y_Q hR hy ya43.1 (by decide) ?_
    refine y_aB hR hy ya43 yl43 rfl rv4 (fun h6 h7 => ?_)
    refine y_sB hR hy ya20 yl20 (e_add (e_mul (e_n 16) rfl) rfl) h4 rfl h7 (fun g11 m9 hR10 => ?_)
    refine rf_ck (fun h12 => ?_)
    exact rf_ok (by exact ⟨⟨(e_add rfl (e_n 1)), h12⟩, hR10⟩)
  · exact rf_ok (by exact hR)
noncomputable def NL_Y_server_348 (v3 : Int) (v4 : Int) (m : YS) : Option (YS) :=
  it (fun s : Int × YS => nb_Y_server_348 v3 s.1 s.2) (v4, m)
theorem fL_Y_server_348 {w y : Prop} {g : g_S} {n : NS} {m : YS} (hy : y) {xv3 : Int32} {v3 : Int} (ev3 : xv3 = Int32.ofInt v3) (rv3 : inR v3) {xv4 : Int32} {v4 : Int} (ev4 : xv4 = Int32.ofInt v4) (rv4 : inR v4) (hR : RC w y g n m) : Rf (fun a b => RC w y a n b) (L_Y_server_348 1838 xv3 xv4 g) (NL_Y_server_348 v3 v4 m) := by
  subst ev3
  subst ev4
  unfold L_Y_server_348 NL_Y_server_348
  refine rf_it (I := (fun a b => RI a.1 b.1 ∧ RC w y a.2 n b.2)) (fun s t h => ?_) ⟨⟨rfl, rv4⟩, hR⟩
  exact fb_Y_server_348 hy rfl rv3 h.1.1 h.1.2 h.2
theorem NL_Y_server_348_eq (v3 : Int) (v4 : Int) (m : YS) : NL_Y_server_348 v3 v4 m = itc (nb_Y_server_348 v3 v4 m) (fun s => NL_Y_server_348 v3 s.1 s.2) := it_eq2 (fun s : Int × YS => nb_Y_server_348 v3 s.1 s.2) (v4, m)
noncomputable def nb_Y_server_276 (v2 : Int) (v3 : Int) (v4 : Int) (m : YS) : Option ((Int × YS) ⊕ (YS)) :=
  ix v3 20 <|
  if v4 < (m 18 v3) then
    ck (v3 * 1500) <|
    ck ((v3 * 1500) + v4) <|
    ck (v2 + v4) <|
    ix (v2 + v4) 2000 <|
    ix ((v3 * 1500) + v4) 30000 <|
    st (yw m 17 ((v3 * 1500) + v4) (m 2 (v2 + v4))) fun m13 =>
    ck (v4 + 1) <|
    some (.inl (v4 + 1, m13))
  else
    some (.inr m)
theorem fb_Y_server_276 {w y : Prop} {g : g_S} {n : NS} {m : YS} (hy : y) {xv2 : Int32} {v2 : Int} (ev2 : xv2 = Int32.ofInt v2) (rv2 : inR v2) {xv3 : Int32} {v3 : Int} (ev3 : xv3 = Int32.ofInt v3) (rv3 : inR v3) {xv4 : Int32} {v4 : Int} (ev4 : xv4 = Int32.ofInt v4) (rv4 : inR v4) (hR : RC w y g n m) : Rf (RS (fun a b => RI a.1 b.1 ∧ RC w y a.2 n b.2) (fun a b => RC w y a n b)) (b_Y_server_276 1838 xv2 xv3 xv4 g) (nb_Y_server_276 v2 v3 v4 m) := by
  subst ev2
  subst ev3
  subst ev4
  unfold b_Y_server_276 nb_Y_server_276
  refine y_Q hR hy ya18.1 (by decide) ?_
  refine y_aI hR hy ya18 yl18 rfl rv3 (fun h2 h3 => ?_)
  refine rf_lt rfl rfl rv4 h3 ?_ ?_
  · refine y_Q hR hy ya17.1 (by decide) ?_
    refine rf_ck (fun h6 => ?_)
    refine rf_ck (fun h7 => ?_)
    refine y_Q hR hy ya2.1 (by decide) ?_
    refine rf_ck (fun h9 => ?_)
    refine y_aB hR hy ya2 yl2 (e_add rfl rfl) h9 (fun h10 h11 => ?_)
    refine y_sB hR hy ya17 yl17 (e_add (e_mul rfl (e_n 1500)) rfl) h7 rfl h11 (fun g15 m13 hR14 => ?_)
    refine rf_ck (fun h16 => ?_)
    exact rf_ok (by exact ⟨⟨(e_add rfl (e_n 1)), h16⟩, hR14⟩)
  · exact rf_ok (by exact hR)
noncomputable def NL_Y_server_276 (v2 : Int) (v3 : Int) (v4 : Int) (m : YS) : Option (YS) :=
  it (fun s : Int × YS => nb_Y_server_276 v2 v3 s.1 s.2) (v4, m)
theorem fL_Y_server_276 {w y : Prop} {g : g_S} {n : NS} {m : YS} (hy : y) {xv2 : Int32} {v2 : Int} (ev2 : xv2 = Int32.ofInt v2) (rv2 : inR v2) {xv3 : Int32} {v3 : Int} (ev3 : xv3 = Int32.ofInt v3) (rv3 : inR v3) {xv4 : Int32} {v4 : Int} (ev4 : xv4 = Int32.ofInt v4) (rv4 : inR v4) (hR : RC w y g n m) : Rf (fun a b => RC w y a n b) (L_Y_server_276 1838 xv2 xv3 xv4 g) (NL_Y_server_276 v2 v3 v4 m) := by
  subst ev2
  subst ev3
  subst ev4
  unfold L_Y_server_276 NL_Y_server_276
  refine rf_it (I := (fun a b => RI a.1 b.1 ∧ RC w y a.2 n b.2)) (fun s t h => ?_) ⟨⟨rfl, rv4⟩, hR⟩
  exact fb_Y_server_276 hy rfl rv2 rfl rv3 h.1.1 h.1.2 h.2
theorem NL_Y_server_276_eq (v2 : Int) (v3 : Int) (v4 : Int) (m : YS) : NL_Y_server_276 v2 v3 v4 m = itc (nb_Y_server_276 v2 v3 v4 m) (fun s => NL_Y_server_276 v2 v3 s.1 s.2) := it_eq2 (fun s : Int × YS => nb_Y_server_276 v2 v3 s.1 s.2) (v4, m)
noncomputable def nb_Y_server_101 (v2 : Int) (m : YS) : Option ((Int × YS) ⊕ ((Int × YS) ⊕ (Int × YS))) :=
  if v2 < (m 3 0) then
    ix v2 2000 <|
    if (m 2 v2) = 32 then
      ck (v2 + 1) <|
      (N_Y_tokenEnd (v2 + 1) m).bind fun z9 =>
      ck (v2 + 1) <|
      (N_Y_field (v2 + 1) z9 m).bind <| u2 fun z14 m17 =>
      if z14 = 0 then
        some (.inr (.inl (v2, m17)))
      else
        some (.inl (z9, m17))
    else
      some (.inr (.inr (v2, m)))
  else
    some (.inr (.inr (v2, m)))
theorem fb_Y_server_101 {w y : Prop} {g : g_S} {n : NS} {m : YS} (hy : y) {xv2 : Int32} {v2 : Int} (ev2 : xv2 = Int32.ofInt v2) (rv2 : inR v2) (hR : RC w y g n m) : Rf (RS (fun a b => RI a.1 b.1 ∧ RC w y a.2 n b.2) (RS (fun a b => RI a.1 b.1 ∧ RC w y a.2 n b.2) (fun a b => RI a.1 b.1 ∧ RC w y a.2 n b.2))) (b_Y_server_101 1838 xv2 g) (nb_Y_server_101 v2 m) := by
  subst ev2
  unfold b_Y_server_101 nb_Y_server_101
  refine y_I hR hy yk3 yt3 (fun h1 => ?_)
  refine rf_lt rfl rfl rv2 h1 ?_ ?_
  · refine y_Q hR hy ya2.1 (by decide) ?_
    refine y_aB hR hy ya2 yl2 rfl rv2 (fun h4 h5 => ?_)
    refine rf_eq rfl (e_n 32) (inB.r h5) (show inR 32 by decide) ?_ ?_
    · refine rf_ck (fun h7 => ?_)
      refine v_c (y_gt hR hy) ?_
      refine rf_bind (f_Y_tokenEnd hy (e_add rfl (e_n 1)) h7 hR) (fun a11 z9 h => ?_)
      obtain ⟨rfl, r10⟩ := h
      refine rf_ck (fun h12 => ?_)
      refine v_c2 (y_gt hR hy) ?_
      refine rf_c2 (f_Y_field hy (e_add rfl (e_n 1)) h12 rfl r10 hR) (fun a16 g19 b h => ?_)
      obtain ⟨z14, m17⟩ := b
      refine rf_v2 ?_
      obtain ⟨rfl, r15⟩ := (show RZ a16 z14 from h.1)
      have hR18 : RC w y g19 n m17 := h.2
      refine rf_eq rfl (e_n 0) (inZ.r r15) (show inR 0 by decide) ?_ ?_
      · exact rf_ok (by exact ⟨⟨rfl, rv2⟩, hR18⟩)
      · exact rf_ok (by exact ⟨⟨rfl, r10⟩, hR18⟩)
    · exact rf_ok (by exact ⟨⟨rfl, rv2⟩, hR⟩)
  · exact rf_ok (by exact ⟨⟨rfl, rv2⟩, hR⟩)
noncomputable def NL_Y_server_101 (v2 : Int) (m : YS) : Option ((Int × YS) ⊕ (Int × YS)) :=
  it (fun s : Int × YS => nb_Y_server_101 s.1 s.2) (v2, m)
theorem fL_Y_server_101 {w y : Prop} {g : g_S} {n : NS} {m : YS} (hy : y) {xv2 : Int32} {v2 : Int} (ev2 : xv2 = Int32.ofInt v2) (rv2 : inR v2) (hR : RC w y g n m) : Rf (RS (fun a b => RI a.1 b.1 ∧ RC w y a.2 n b.2) (fun a b => RI a.1 b.1 ∧ RC w y a.2 n b.2)) (L_Y_server_101 1838 xv2 g) (NL_Y_server_101 v2 m) := by
  subst ev2
  unfold L_Y_server_101 NL_Y_server_101
  refine rf_it (I := (fun a b => RI a.1 b.1 ∧ RC w y a.2 n b.2)) (fun s t h => ?_) ⟨⟨rfl, rv2⟩, hR⟩
  exact fb_Y_server_101 hy h.1.1 h.1.2 h.2
theorem NL_Y_server_101_eq (v2 : Int) (m : YS) : NL_Y_server_101 v2 m = itc (nb_Y_server_101 v2 m) (fun s => NL_Y_server_101 s.1 s.2) := it_eq2 (fun s : Int × YS => nb_Y_server_101 s.1 s.2) (v2, m)
noncomputable def nk_Y_server_433 (w0 : Int) (w1 : Int) (m : YS) : Option (Int × YS) :=
  cz w0 <|
  ix w1 20 <|
  st (yw m 24 w1 w0) fun m3 =>
  some ((m3 16 0), m3)
theorem fk_Y_server_433 {w y : Prop} {g : g_S} {n : NS} {m : YS} (hy : y) {xw0 : Int32} {w0 : Int} (ew0 : xw0 = Int32.ofInt w0) (rw0 : inR w0) {xw1 : Int32} {w1 : Int} (ew1 : xw1 = Int32.ofInt w1) (rw1 : inR w1) (hR : RC w y g n m) : Rf (fun a b => RI a.1 b.1 ∧ RC w y a.2 n b.2) (k_Y_server_433 1838 xw0 xw1 (yAd 24) g) (nk_Y_server_433 w0 w1 m) := by
  subst ew0
  subst ew1
  unfold k_Y_server_433 nk_Y_server_433
  refine rf_cz (fun h2 => ?_)
  refine y_sZ hR hy ya24 yl24 rfl rw1 rfl h2 (fun g5 m3 hR4 => ?_)
  refine y_I hR4 hy yk16 yt16 (fun h6 => ?_)
  exact rf_ok (by exact ⟨⟨rfl, h6⟩, hR4⟩)
noncomputable def nk_Y_server_416 (v3 : Int) (m : YS) : Option (Int × YS) :=
  if 0 < (m 42 0) then
    nk_Y_server_433 1 v3 m
  else
    nk_Y_server_433 0 v3 m
theorem fk_Y_server_416 {w y : Prop} {g : g_S} {n : NS} {m : YS} (hy : y) {xv3 : Int32} {v3 : Int} (ev3 : xv3 = Int32.ofInt v3) (rv3 : inR v3) (hR : RC w y g n m) : Rf (fun a b => RI a.1 b.1 ∧ RC w y a.2 n b.2) (k_Y_server_416 1838 xv3 g) (nk_Y_server_416 v3 m) := by
  subst ev3
  unfold k_Y_server_416 nk_Y_server_416
  refine y_Q hR hy ya24.1 (by decide) ?_
  refine y_I hR hy yk42 yt42 (fun h2 => ?_)
  refine rf_lt (e_n 0) rfl (show inR 0 by decide) h2 ?_ ?_
  · exact fk_Y_server_433 hy (e_n 1) (show inR 1 by decide) rfl rv3 hR
  · exact fk_Y_server_433 hy (e_n 0) (show inR 0 by decide) rfl rv3 hR
noncomputable def nk_Y_server_397 (v3 : Int) (w0 : Int) (w1 : Int) (m : YS) : Option (Int × YS) :=
  cz w0 <|
  ix w1 20 <|
  st (yw m 23 w1 w0) fun m3 =>
  ix v3 20 <|
  if (m3 23 v3) = 0 then
    nk_Y_server_416 v3 m3
  else
    ck (46 + v3) <|
    (N_Y_copyRow (46 + v3) 4 m3).bind fun m12 =>
    nk_Y_server_416 v3 m12
theorem fk_Y_server_397 {w y : Prop} {g : g_S} {n : NS} {m : YS} (hy : y) {xv3 : Int32} {v3 : Int} (ev3 : xv3 = Int32.ofInt v3) (rv3 : inR v3) {xw0 : Int32} {w0 : Int} (ew0 : xw0 = Int32.ofInt w0) (rw0 : inR w0) {xw1 : Int32} {w1 : Int} (ew1 : xw1 = Int32.ofInt w1) (rw1 : inR w1) (hR : RC w y g n m) : Rf (fun a b => RI a.1 b.1 ∧ RC w y a.2 n b.2) (k_Y_server_397 1838 xv3 xw0 xw1 (yAd 23) g) (nk_Y_server_397 v3 w0 w1 m) := by
  subst ev3
  subst ew0
  subst ew1
  unfold k_Y_server_397 nk_Y_server_397
  refine rf_cz (fun h2 => ?_)
  refine y_sZ hR hy ya23 yl23 rfl rw1 rfl h2 (fun g5 m3 hR4 => ?_)
  refine y_Q hR4 hy ya23.1 (by decide) ?_
  refine y_aZ hR4 hy ya23 yl23 rfl rv3 (fun h7 h8 => ?_)
  refine rf_eq rfl (e_n 0) (inZ.r h8) (show inR 0 by decide) ?_ ?_
  · exact fk_Y_server_416 hy rfl rv3 hR4
  · refine rf_ck (fun h10 => ?_)
    refine v_c (y_gt hR4 hy) ?_
    refine rf_bind (f_Y_copyRow hy (e_add (e_n 46) rfl) h10 (e_n 4) (show inR 4 by decide) hR4) (fun g14 m12 hR13 => ?_)
    exact fk_Y_server_416 hy rfl rv3 hR13
noncomputable def nk_Y_server_249 (v2 : Int) (v3 : Int) (w0 : Int) (m : YS) : Option (Int × YS) :=
  st (yw m 16 0 w0) fun m2 =>
  ck (6 + v3) <|
  (N_Y_copyRow (6 + v3) 3 m2).bind fun m7 =>
  ck ((m7 3 0) - v2) <|
  ix v3 20 <|
  st (yw m7 18 v3 ((m7 3 0) - v2)) fun m14 =>
  (NL_Y_server_276 v2 v3 0 m14).bind <| fun m17 =>
  ix v3 12 <|
  st (yw m17 19 v3 (m17 38 0)) fun m23 =>
  ix v3 12 <|
  st (yw m23 21 v3 (m23 39 0)) fun m29 =>
  ix v3 12 <|
  st (yw m29 22 v3 (m29 40 0)) fun m35 =>
  (NL_Y_server_348 v3 0 m35).bind <| fun m38 =>
  if 0 < (m38 41 0) then
    nk_Y_server_397 v3 1 v3 m38
  else
    nk_Y_server_397 v3 0 v3 m38
theorem fk_Y_server_249 {w y : Prop} {g : g_S} {n : NS} {m : YS} (hy : y) {xv2 : Int32} {v2 : Int} (ev2 : xv2 = Int32.ofInt v2) (rv2 : inR v2) {xv3 : Int32} {v3 : Int} (ev3 : xv3 = Int32.ofInt v3) (rv3 : inR v3) {xw0 : Int32} {w0 : Int} (ew0 : xw0 = Int32.ofInt w0) (rw0 : inR w0) (hR : RC w y g n m) : Rf (fun a b => RI a.1 b.1 ∧ RC w y a.2 n b.2) (k_Y_server_249 1838 xv2 xv3 xw0 1838 g) (nk_Y_server_249 v2 v3 w0 m) := by
  subst ev2
  subst ev3
  subst ew0
  unfold k_Y_server_249 nk_Y_server_249
  refine y_pI hR hy yk16 ⟨yt16, yz16⟩ rfl rw0 (fun g4 m2 hR3 => ?_)
  refine rf_ck (fun h5 => ?_)
  refine v_c (y_gt hR3 hy) ?_
  refine rf_bind (f_Y_copyRow hy (e_add (e_n 6) rfl) h5 (e_n 3) (show inR 3 by decide) hR3) (fun g9 m7 hR8 => ?_)
  refine y_Q hR8 hy ya18.1 (by decide) ?_
  refine y_I hR8 hy yk3 yt3 (fun h11 => ?_)
  refine rf_ck (fun h12 => ?_)
  refine y_sI hR8 hy ya18 yl18 rfl rv3 (e_sub rfl rfl) h12 (fun g16 m14 hR15 => ?_)
  refine rf_bind (fL_Y_server_276 hy rfl rv2 rfl rv3 (e_n 0) (show inR 0 by decide) hR15) (fun a18 m17 h => ?_)
  have hR19 : RC w y a18 n m17 := h
  refine y_Q hR19 hy ya19.1 (by decide) ?_
  refine y_I hR19 hy yk38 yt38 (fun h21 => ?_)
  refine y_sI hR19 hy ya19 yl19 rfl rv3 rfl h21 (fun g25 m23 hR24 => ?_)
  refine y_Q hR24 hy ya21.1 (by decide) ?_
  refine y_I hR24 hy yk39 yt39 (fun h27 => ?_)
  refine y_sI hR24 hy ya21 yl21 rfl rv3 rfl h27 (fun g31 m29 hR30 => ?_)
  refine y_Q hR30 hy ya22.1 (by decide) ?_
  refine y_I hR30 hy yk40 yt40 (fun h33 => ?_)
  refine y_sI hR30 hy ya22 yl22 rfl rv3 rfl h33 (fun g37 m35 hR36 => ?_)
  refine rf_bind (fL_Y_server_348 hy rfl rv3 (e_n 0) (show inR 0 by decide) hR36) (fun a39 m38 h => ?_)
  have hR40 : RC w y a39 n m38 := h
  refine y_Q hR40 hy ya23.1 (by decide) ?_
  refine y_I hR40 hy yk41 yt41 (fun h42 => ?_)
  refine rf_lt (e_n 0) rfl (show inR 0 by decide) h42 ?_ ?_
  · exact fk_Y_server_397 hy rfl rv3 (e_n 1) (show inR 1 by decide) rfl rv3 hR40
  · exact fk_Y_server_397 hy rfl rv3 (e_n 0) (show inR 0 by decide) rfl rv3 hR40
noncomputable def nk_Y_server_219 (v2 : Int) (v3 : Int) (m : YS) : Option (Int × YS) :=
  if v3 = 12 then
    some ((-1), m)
  else
    if v3 = (m 16 0) then
      ck ((m 16 0) + 1) <|
      nk_Y_server_249 v2 v3 ((m 16 0) + 1) m
    else
      nk_Y_server_249 v2 v3 (m 16 0) m
theorem fk_Y_server_219 {w y : Prop} {g : g_S} {n : NS} {m : YS} (hy : y) {xv2 : Int32} {v2 : Int} (ev2 : xv2 = Int32.ofInt v2) (rv2 : inR v2) {xv3 : Int32} {v3 : Int} (ev3 : xv3 = Int32.ofInt v3) (rv3 : inR v3) (hR : RC w y g n m) : Rf (fun a b => RI a.1 b.1 ∧ RC w y a.2 n b.2) (k_Y_server_219 1838 xv2 xv3 g) (nk_Y_server_219 v2 v3 m) := by
  subst ev2
  subst ev3
  unfold k_Y_server_219 nk_Y_server_219
  refine rf_eq rfl (e_n 12) rv3 (show inR 12 by decide) ?_ ?_
  · exact rf_ok (by exact ⟨⟨(e_m 1), (show inR (-1) by decide)⟩, hR⟩)
  · refine y_I hR hy yk16 yt16 (fun h3 => ?_)
    refine rf_eq rfl rfl rv3 h3 ?_ ?_
    · refine y_I hR hy yk16 yt16 (fun h5 => ?_)
      refine rf_ck (fun h6 => ?_)
      exact fk_Y_server_249 hy rfl rv2 rfl rv3 (e_add rfl (e_n 1)) h6 hR
    · refine y_I hR hy yk16 yt16 (fun h7 => ?_)
      exact fk_Y_server_249 hy rfl rv2 rfl rv3 rfl h7 hR
noncomputable def nk_Y_server_151 (v2 : Int) (m : YS) : Option (Int × YS) :=
  if v2 = (m 3 0) then
    (N_Y_wrong (m 3 0) m).bind fun z5 =>
    some (z5, m)
  else
    ck (v2 + 1) <|
    ck ((m 3 0) - (v2 + 1)) <|
    if 1500 < ((m 3 0) - (v2 + 1)) then
      ck ((v2 + 1) + 1500) <|
      (N_Y_wrong ((v2 + 1) + 1500) m).bind fun z15 =>
      some (z15, m)
    else
      (NL_Y_server_193 (v2 + 1) 0 m).bind <| fun z19 =>
      nk_Y_server_219 (v2 + 1) z19 m
theorem fk_Y_server_151 {w y : Prop} {g : g_S} {n : NS} {m : YS} (hy : y) {xv2 : Int32} {v2 : Int} (ev2 : xv2 = Int32.ofInt v2) (rv2 : inR v2) (hR : RC w y g n m) : Rf (fun a b => RI a.1 b.1 ∧ RC w y a.2 n b.2) (k_Y_server_151 1838 xv2 g) (nk_Y_server_151 v2 m) := by
  subst ev2
  unfold k_Y_server_151 nk_Y_server_151
  refine y_I hR hy yk3 yt3 (fun h1 => ?_)
  refine rf_eq rfl rfl rv2 h1 ?_ ?_
  · refine y_I hR hy yk3 yt3 (fun h3 => ?_)
    refine rf_bind (f_Y_wrong hy rfl h3 hR) (fun a7 z5 h => ?_)
    obtain ⟨rfl, r6⟩ := h
    exact rf_ok (by exact ⟨⟨rfl, r6⟩, hR⟩)
  · refine rf_ck (fun h9 => ?_)
    refine y_I hR hy yk3 yt3 (fun h10 => ?_)
    refine rf_ck (fun h11 => ?_)
    refine rf_lt (e_n 1500) (e_sub rfl (e_add rfl (e_n 1))) (show inR 1500 by decide) h11 ?_ ?_
    · refine rf_ck (fun h13 => ?_)
      refine rf_bind (f_Y_wrong hy (e_add (e_add rfl (e_n 1)) (e_n 1500)) h13 hR) (fun a17 z15 h => ?_)
      obtain ⟨rfl, r16⟩ := h
      exact rf_ok (by exact ⟨⟨rfl, r16⟩, hR⟩)
    · refine rf_bind (fL_Y_server_193 hy (e_add rfl (e_n 1)) h9 (e_n 0) (show inR 0 by decide) hR) (fun a20 z19 h => ?_)
      obtain ⟨rfl, r21⟩ := (show RI a20 z19 from h)
      exact fk_Y_server_219 hy (e_add rfl (e_n 1)) h9 rfl r21 hR
noncomputable def nk_Y_server_70 (m : YS) : Option (Int × YS) :=
  (N_Y_wrong 0 m).bind fun z2 =>
  some (z2, m)
theorem fk_Y_server_70 {w y : Prop} {g : g_S} {n : NS} {m : YS} (hy : y) (hR : RC w y g n m) : Rf (fun a b => RI a.1 b.1 ∧ RC w y a.2 n b.2) (k_Y_server_70 g) (nk_Y_server_70 m) := by
  unfold k_Y_server_70 nk_Y_server_70
  refine rf_bind (f_Y_wrong hy (e_n 0) (show inR 0 by decide) hR) (fun a4 z2 h => ?_)
  obtain ⟨rfl, r3⟩ := h
  exact rf_ok (by exact ⟨⟨rfl, r3⟩, hR⟩)
noncomputable def N_Y_server (m : YS) : Option (Int × YS) :=
  (N_Y_take m).bind <| u2 fun z2 m5 =>
  if z2 < 0 then
    (N_Y_tokenEnd 0 m5).bind fun z10 =>
    if z10 < 2 then
      nk_Y_server_70 m5
    else
      ix 0 2000 <|
      if (m5 2 0) = 47 then
        ix 1 2000 <|
        if (m5 2 1) = 47 then
          (N_Y_refer 2 0 z10 5 m5).bind <| u2 fun z24 m27 =>
          if z24 = 0 then
            nk_Y_server_70 m27
          else
            ix 0 66 <|
            if 0 < (m27 8 0) then
              nk_Y_server_70 m27
            else
              (N_Y_copyRow 3 0 m27).bind fun m36 =>
              st (yw m36 38 0 (-1)) fun m40 =>
              st (yw m40 39 0 0) fun m44 =>
              st (yw m44 41 0 0) fun m48 =>
              st (yw m48 42 0 0) fun m52 =>
              (NL_Y_server_101 z10 m52).bind <|
                us (u2 fun z55 m56 =>
                ck (z55 + 1) <|
                (N_Y_wrong (z55 + 1) m56).bind fun z63 =>
                some (z63, m56))
                (u2 fun z67 m68 =>
                nk_Y_server_151 z67 m68)
        else
          nk_Y_server_70 m5
      else
        nk_Y_server_70 m5
  else
    (N_Y_wrong z2 m5).bind fun z74 =>
    some (z74, m5)
theorem f_Y_server {w y : Prop} {g : g_S} {n : NS} {m : YS} (hy : y) (hR : RC w y g n m) : Rf (fun a b => RI a.1 b.1 ∧ RC w y a.2 n b.2) (M_Y_server 1838 g) (N_Y_server m) := by
  unfold M_Y_server N_Y_server
  refine v_c2 (y_gt hR hy) ?_
  refine rf_c2 (f_Y_take hy hR) (fun a4 g7 b h => ?_)
  obtain ⟨z2, m5⟩ := b
  refine rf_v2 ?_
  obtain ⟨rfl, r3⟩ := (show RI a4 z2 from h.1)
  have hR6 : RC w y g7 n m5 := h.2
  refine rf_lt rfl (e_n 0) r3 (show inR 0 by decide) ?_ ?_
  · refine v_c (y_gt hR6 hy) ?_
    refine rf_bind (f_Y_tokenEnd hy (e_n 0) (show inR 0 by decide) hR6) (fun a12 z10 h => ?_)
    obtain ⟨rfl, r11⟩ := h
    refine rf_lt rfl (e_n 2) r11 (show inR 2 by decide) ?_ ?_
    · exact fk_Y_server_70 hy hR6
    · refine y_Q hR6 hy ya2.1 (by decide) ?_
      refine y_aB hR6 hy ya2 yl2 (e_n 0) (show inR 0 by decide) (fun h15 h16 => ?_)
      refine rf_eq rfl (e_n 47) (inB.r h16) (show inR 47 by decide) ?_ ?_
      · refine y_Q hR6 hy ya2.1 (by decide) ?_
        refine y_aB hR6 hy ya2 yl2 (e_n 1) (show inR 1 by decide) (fun h19 h20 => ?_)
        refine rf_eq rfl (e_n 47) (inB.r h20) (show inR 47 by decide) ?_ ?_
        · refine y_Q hR6 hy ya2.1 (by decide) ?_
          refine v_c2 (y_gt hR6 hy) ?_
          refine rf_c2 (f_Y_refer hy rfl ya2 (e_n 0) (show inR 0 by decide) rfl r11 (e_n 5) (show inR 5 by decide) hR6) (fun a26 g29 b h => ?_)
          obtain ⟨z24, m27⟩ := b
          refine rf_v2 ?_
          obtain ⟨rfl, r25⟩ := (show RZ a26 z24 from h.1)
          have hR28 : RC w y g29 n m27 := h.2
          refine rf_eq rfl (e_n 0) (inZ.r r25) (show inR 0 by decide) ?_ ?_
          · exact fk_Y_server_70 hy hR28
          · refine y_Q hR28 hy ya8.1 (by decide) ?_
            refine y_aI hR28 hy ya8 yl8 (e_n 0) (show inR 0 by decide) (fun h32 h33 => ?_)
            refine rf_lt (e_n 0) rfl (show inR 0 by decide) h33 ?_ ?_
            · exact fk_Y_server_70 hy hR28
            · refine v_c (y_gt hR28 hy) ?_
              refine rf_bind (f_Y_copyRow hy (e_n 3) (show inR 3 by decide) (e_n 0) (show inR 0 by decide) hR28) (fun g38 m36 hR37 => ?_)
              refine y_pI hR37 hy yk38 ⟨yt38, yz38⟩ (e_m 1) (show inR (-1) by decide) (fun g42 m40 hR41 => ?_)
              refine y_pI hR41 hy yk39 ⟨yt39, yz39⟩ (e_n 0) (show inR 0 by decide) (fun g46 m44 hR45 => ?_)
              refine y_pI hR45 hy yk41 ⟨yt41, yz41⟩ (e_n 0) (show inR 0 by decide) (fun g50 m48 hR49 => ?_)
              refine y_pI hR49 hy yk42 ⟨yt42, yz42⟩ (e_n 0) (show inR 0 by decide) (fun g54 m52 hR53 => ?_)
              refine rf_bind (fL_Y_server_101 hy rfl r11 hR53) (fun a b h => rf_us h (fun a b h => ?_) (fun a b h => ?_))
              · obtain ⟨a57, a58⟩ := a
                obtain ⟨z55, m56⟩ := b
                refine rf_u2 ?_
                obtain ⟨rfl, r60⟩ := (show RI a57 z55 from h.1)
                have hR59 : RC w y a58 n m56 := h.2
                refine rf_ck (fun h61 => ?_)
                refine rf_bind (f_Y_wrong hy (e_add rfl (e_n 1)) h61 hR59) (fun a65 z63 h => ?_)
                obtain ⟨rfl, r64⟩ := h
                exact rf_ok (by exact ⟨⟨rfl, r64⟩, hR59⟩)
              · obtain ⟨a69, a70⟩ := a
                obtain ⟨z67, m68⟩ := b
                refine rf_u2 ?_
                obtain ⟨rfl, r72⟩ := (show RI a69 z67 from h.1)
                have hR71 : RC w y a70 n m68 := h.2
                exact fk_Y_server_151 hy rfl r72 hR71
        · exact fk_Y_server_70 hy hR6
      · exact fk_Y_server_70 hy hR6
  · refine rf_bind (f_Y_wrong hy rfl r3 hR6) (fun a76 z74 h => ?_)
    obtain ⟨rfl, r75⟩ := h
    exact rf_ok (by exact ⟨⟨rfl, r75⟩, hR6⟩)
noncomputable def N_Y_there (v1 : Int) (m : YS) : Option (Int) :=
  if v1 < 0 then
    some 0
  else
    if v1 < 120 then
      ix v1 120 <|
      if (m 45 v1) = 0 then
        some 0
      else
        some 1
    else
      some 0
theorem f_Y_there {w y : Prop} {g : g_S} {n : NS} {m : YS} (hy : y) {xv1 : Int32} {v1 : Int} (ev1 : xv1 = Int32.ofInt v1) (rv1 : inR v1) (hR : RC w y g n m) : Rf (fun a b => RZ a b) (M_Y_there 1838 xv1 g) (N_Y_there v1 m) := by
  subst ev1
  unfold M_Y_there N_Y_there
  refine rf_lt rfl (e_n 0) rv1 (show inR 0 by decide) ?_ ?_
  · exact rf_ok (by exact ⟨(e_n 0), (.inl rfl)⟩)
  · refine rf_lt rfl (e_n 120) rv1 (show inR 120 by decide) ?_ ?_
    · refine y_Q hR hy ya45.1 (by decide) ?_
      refine y_aZ hR hy ya45 yl45 rfl rv1 (fun h5 h6 => ?_)
      refine rf_eq rfl (e_n 0) (inZ.r h6) (show inR 0 by decide) ?_ ?_
      · exact rf_ok (by exact ⟨(e_n 0), (.inl rfl)⟩)
      · exact rf_ok (by exact ⟨(e_n 1), (.inr rfl)⟩)
    · exact rf_ok (by exact ⟨(e_n 0), (.inl rfl)⟩)
noncomputable def N_Y_say (v1 : Int) (m : YS) : Option (YS) :=
  if (m 5 0) < 8000 then
    ix (m 5 0) 8000 <|
    st (yw m 4 (m 5 0) (Int.bmod v1 256)) fun m6 =>
    ck ((m6 5 0) + 1) <|
    st (yw m6 5 0 ((m6 5 0) + 1)) fun m12 =>
    some m12
  else
    some m
theorem f_Y_say {w y : Prop} {g : g_S} {n : NS} {m : YS} (hy : y) {xv1 : Int32} {v1 : Int} (ev1 : xv1 = Int32.ofInt v1) (rv1 : inR v1) (hR : RC w y g n m) : Rf (fun a b => RC w y a n b) (M_Y_say 1838 xv1 g) (N_Y_say v1 m) := by
  subst ev1
  unfold M_Y_say N_Y_say
  refine y_I hR hy yk5 yt5 (fun h1 => ?_)
  refine rf_lt rfl (e_n 8000) h1 (show inR 8000 by decide) ?_ ?_
  · refine y_Q hR hy ya4.1 (by decide) ?_
    refine y_I hR hy yk5 yt5 (fun h4 => ?_)
    refine y_sB hR hy ya4 yl4 rfl h4 (e_b rfl) b_b (fun g8 m6 hR7 => ?_)
    refine y_I hR7 hy yk5 yt5 (fun h9 => ?_)
    refine rf_ck (fun h10 => ?_)
    refine y_pI hR7 hy yk5 ⟨yt5, yz5⟩ (e_add rfl (e_n 1)) h10 (fun g14 m12 hR13 => ?_)
    exact rf_ok (by exact hR13)
  · exact rf_ok (by exact hR)
noncomputable def nk_Y_sayEscaped_173 (v1 : Nat) (v2 : Int) (v3 : Int) (v4 : Int) (v5 : Int) (m : YS) : Option ((Int × YS) ⊕ (YS)) :=
  (N_Y_say 59 m).bind fun m2 =>
  ck (v5 + 1) <|
  some (.inl (v5 + 1, m2))
theorem fk_Y_sayEscaped_173 {w y : Prop} {g : g_S} {n : NS} {m : YS} (hy : y) {xv1 : Nat} {v1 : Nat} (ev1 : xv1 = yAd v1) (rv1 : v1 < 186 ∧ yT v1 = 1) {xv2 : Int32} {v2 : Int} (ev2 : xv2 = Int32.ofInt v2) (rv2 : inR v2) {xv3 : Int32} {v3 : Int} (ev3 : xv3 = Int32.ofInt v3) (rv3 : inR v3) {xv4 : Int32} {v4 : Int} (ev4 : xv4 = Int32.ofInt v4) (rv4 : inR v4) {xv5 : Int32} {v5 : Int} (ev5 : xv5 = Int32.ofInt v5) (rv5 : inR v5) (hR : RC w y g n m) : Rf (RS (fun a b => RI a.1 b.1 ∧ RC w y a.2 n b.2) (fun a b => RC w y a n b)) (k_Y_sayEscaped_173 1838 xv1 xv2 xv3 xv4 xv5 g) (nk_Y_sayEscaped_173 v1 v2 v3 v4 v5 m) := by
  subst ev1
  subst ev2
  subst ev3
  subst ev4
  subst ev5
  unfold k_Y_sayEscaped_173 nk_Y_sayEscaped_173
  refine v_c (y_gt hR hy) ?_
  refine rf_bind (f_Y_say hy (e_n 59) (show inR 59 by decide) hR) (fun g4 m2 hR3 => ?_)
  refine rf_ck (fun h5 => ?_)
  exact rf_ok (by exact ⟨⟨(e_add rfl (e_n 1)), h5⟩, hR3⟩)
noncomputable def nk_Y_sayEscaped_164 (v1 : Nat) (v2 : Int) (v3 : Int) (v4 : Int) (v5 : Int) (w0 : Int) (m : YS) : Option ((Int × YS) ⊕ (YS)) :=
  (N_Y_say w0 m).bind fun m2 =>
  (N_Y_say 116 m2).bind fun m6 =>
  nk_Y_sayEscaped_173 v1 v2 v3 v4 v5 m6
theorem fk_Y_sayEscaped_164 {w y : Prop} {g : g_S} {n : NS} {m : YS} (hy : y) {xv1 : Nat} {v1 : Nat} (ev1 : xv1 = yAd v1) (rv1 : v1 < 186 ∧ yT v1 = 1) {xv2 : Int32} {v2 : Int} (ev2 : xv2 = Int32.ofInt v2) (rv2 : inR v2) {xv3 : Int32} {v3 : Int} (ev3 : xv3 = Int32.ofInt v3) (rv3 : inR v3) {xv4 : Int32} {v4 : Int} (ev4 : xv4 = Int32.ofInt v4) (rv4 : inR v4) {xv5 : Int32} {v5 : Int} (ev5 : xv5 = Int32.ofInt v5) (rv5 : inR v5) {xw0 : Int32} {w0 : Int} (ew0 : xw0 = Int32.ofInt w0) (rw0 : inR w0) (hR : RC w y g n m) : Rf (RS (fun a b => RI a.1 b.1 ∧ RC w y a.2 n b.2) (fun a b => RC w y a n b)) (k_Y_sayEscaped_164 1838 xv1 xv2 xv3 xv4 xv5 xw0 1838 g) (nk_Y_sayEscaped_164 v1 v2 v3 v4 v5 w0 m) := by
  subst ev1
  subst ev2
  subst ev3
  subst ev4
  subst ev5
  subst ew0
  unfold k_Y_sayEscaped_164 nk_Y_sayEscaped_164
  refine v_c (y_gt hR hy) ?_
  refine rf_bind (f_Y_say hy rfl rw0 hR) (fun g4 m2 hR3 => ?_)
  refine v_c (y_gt hR3 hy) ?_
  refine rf_bind (f_Y_say hy (e_n 116) (show inR 116 by decide) hR3) (fun g8 m6 hR7 => ?_)
  exact fk_Y_sayEscaped_173 hy rfl rv1 rfl rv2 rfl rv3 rfl rv4 rfl rv5 hR7
noncomputable def nk_Y_sayEscaped_130 (v1 : Nat) (v2 : Int) (v3 : Int) (v4 : Int) (v5 : Int) (v6 : Int) (w0 : Int) (m : YS) : Option ((Int × YS) ⊕ (YS)) :=
  (N_Y_say w0 m).bind fun m2 =>
  if v6 = 34 then
    (N_Y_say 116 m2).bind fun m7 =>
    nk_Y_sayEscaped_173 v1 v2 v3 v4 v5 m7
  else
    nk_Y_sayEscaped_173 v1 v2 v3 v4 v5 m2
theorem fk_Y_sayEscaped_130 {w y : Prop} {g : g_S} {n : NS} {m : YS} (hy : y) {xv1 : Nat} {v1 : Nat} (ev1 : xv1 = yAd v1) (rv1 : v1 < 186 ∧ yT v1 = 1) {xv2 : Int32} {v2 : Int} (ev2 : xv2 = Int32.ofInt v2) (rv2 : inR v2) {xv3 : Int32} {v3 : Int} (ev3 : xv3 = Int32.ofInt v3) (rv3 : inR v3) {xv4 : Int32} {v4 : Int} (ev4 : xv4 = Int32.ofInt v4) (rv4 : inR v4) {xv5 : Int32} {v5 : Int} (ev5 : xv5 = Int32.ofInt v5) (rv5 : inR v5) {xv6 : Int32} {v6 : Int} (ev6 : xv6 = Int32.ofInt v6) (rv6 : inR v6) {xw0 : Int32} {w0 : Int} (ew0 : xw0 = Int32.ofInt w0) (rw0 : inR w0) (hR : RC w y g n m) : Rf (RS (fun a b => RI a.1 b.1 ∧ RC w y a.2 n b.2) (fun a b => RC w y a n b)) (k_Y_sayEscaped_130 1838 xv1 xv2 xv3 xv4 xv5 xv6 xw0 1838 g) (nk_Y_sayEscaped_130 v1 v2 v3 v4 v5 v6 w0 m) := by
  subst ev1
  subst ev2
  subst ev3
  subst ev4
  subst ev5
  subst ev6
  subst ew0
  unfold k_Y_sayEscaped_130 nk_Y_sayEscaped_130
  refine v_c (y_gt hR hy) ?_
  refine rf_bind (f_Y_say hy rfl rw0 hR) (fun g4 m2 hR3 => ?_)
  refine rf_eq rfl (e_n 34) rv6 (show inR 34 by decide) ?_ ?_
  · refine v_c (y_gt hR3 hy) ?_
    refine rf_bind (f_Y_say hy (e_n 116) (show inR 116 by decide) hR3) (fun g9 m7 hR8 => ?_)
    exact fk_Y_sayEscaped_173 hy rfl rv1 rfl rv2 rfl rv3 rfl rv4 rfl rv5 hR8
  · exact fk_Y_sayEscaped_173 hy rfl rv1 rfl rv2 rfl rv3 rfl rv4 rfl rv5 hR3
noncomputable def nk_Y_sayEscaped_112 (v1 : Nat) (v2 : Int) (v3 : Int) (v4 : Int) (v5 : Int) (v6 : Int) (w0 : Int) (m : YS) : Option ((Int × YS) ⊕ (YS)) :=
  (N_Y_say w0 m).bind fun m2 =>
  if v6 = 38 then
    nk_Y_sayEscaped_130 v1 v2 v3 v4 v5 v6 112 m2
  else
    nk_Y_sayEscaped_130 v1 v2 v3 v4 v5 v6 111 m2
theorem fk_Y_sayEscaped_112 {w y : Prop} {g : g_S} {n : NS} {m : YS} (hy : y) {xv1 : Nat} {v1 : Nat} (ev1 : xv1 = yAd v1) (rv1 : v1 < 186 ∧ yT v1 = 1) {xv2 : Int32} {v2 : Int} (ev2 : xv2 = Int32.ofInt v2) (rv2 : inR v2) {xv3 : Int32} {v3 : Int} (ev3 : xv3 = Int32.ofInt v3) (rv3 : inR v3) {xv4 : Int32} {v4 : Int} (ev4 : xv4 = Int32.ofInt v4) (rv4 : inR v4) {xv5 : Int32} {v5 : Int} (ev5 : xv5 = Int32.ofInt v5) (rv5 : inR v5) {xv6 : Int32} {v6 : Int} (ev6 : xv6 = Int32.ofInt v6) (rv6 : inR v6) {xw0 : Int32} {w0 : Int} (ew0 : xw0 = Int32.ofInt w0) (rw0 : inR w0) (hR : RC w y g n m) : Rf (RS (fun a b => RI a.1 b.1 ∧ RC w y a.2 n b.2) (fun a b => RC w y a n b)) (k_Y_sayEscaped_112 1838 xv1 xv2 xv3 xv4 xv5 xv6 xw0 1838 g) (nk_Y_sayEscaped_112 v1 v2 v3 v4 v5 v6 w0 m) := by
  subst ev1
  subst ev2
  subst ev3
  subst ev4
  subst ev5
  subst ev6
  subst ew0
  unfold k_Y_sayEscaped_112 nk_Y_sayEscaped_112
  refine v_c (y_gt hR hy) ?_
  refine rf_bind (f_Y_say hy rfl rw0 hR) (fun g4 m2 hR3 => ?_)
  refine rf_eq rfl (e_n 38) rv6 (show inR 38 by decide) ?_ ?_
  · exact fk_Y_sayEscaped_130 hy rfl rv1 rfl rv2 rfl rv3 rfl rv4 rfl rv5 rfl rv6 (e_n 112) (show inR 112 by decide) hR3
  · exact fk_Y_sayEscaped_130 hy rfl rv1 rfl rv2 rfl rv3 rfl rv4 rfl rv5 rfl rv6 (e_n 111) (show inR 111 by decide) hR3
noncomputable def nk_Y_sayEscaped_94 (v1 : Nat) (v2 : Int) (v3 : Int) (v4 : Int) (v5 : Int) (v6 : Int) (w0 : Int) (m : YS) : Option ((Int × YS) ⊕ (YS)) :=
  (N_Y_say w0 m).bind fun m2 =>
  if v6 = 38 then
    nk_Y_sayEscaped_112 v1 v2 v3 v4 v5 v6 109 m2
  else
    nk_Y_sayEscaped_112 v1 v2 v3 v4 v5 v6 117 m2
theorem fk_Y_sayEscaped_94 {w y : Prop} {g : g_S} {n : NS} {m : YS} (hy : y) {xv1 : Nat} {v1 : Nat} (ev1 : xv1 = yAd v1) (rv1 : v1 < 186 ∧ yT v1 = 1) {xv2 : Int32} {v2 : Int} (ev2 : xv2 = Int32.ofInt v2) (rv2 : inR v2) {xv3 : Int32} {v3 : Int} (ev3 : xv3 = Int32.ofInt v3) (rv3 : inR v3) {xv4 : Int32} {v4 : Int} (ev4 : xv4 = Int32.ofInt v4) (rv4 : inR v4) {xv5 : Int32} {v5 : Int} (ev5 : xv5 = Int32.ofInt v5) (rv5 : inR v5) {xv6 : Int32} {v6 : Int} (ev6 : xv6 = Int32.ofInt v6) (rv6 : inR v6) {xw0 : Int32} {w0 : Int} (ew0 : xw0 = Int32.ofInt w0) (rw0 : inR w0) (hR : RC w y g n m) : Rf (RS (fun a b => RI a.1 b.1 ∧ RC w y a.2 n b.2) (fun a b => RC w y a n b)) (k_Y_sayEscaped_94 1838 xv1 xv2 xv3 xv4 xv5 xv6 xw0 1838 g) (nk_Y_sayEscaped_94 v1 v2 v3 v4 v5 v6 w0 m) := by
  subst ev1
  subst ev2
  subst ev3
  subst ev4
  subst ev5
  subst ev6
  subst ew0
  unfold k_Y_sayEscaped_94 nk_Y_sayEscaped_94
  refine v_c (y_gt hR hy) ?_
  refine rf_bind (f_Y_say hy rfl rw0 hR) (fun g4 m2 hR3 => ?_)
  refine rf_eq rfl (e_n 38) rv6 (show inR 38 by decide) ?_ ?_
  · exact fk_Y_sayEscaped_112 hy rfl rv1 rfl rv2 rfl rv3 rfl rv4 rfl rv5 rfl rv6 (e_n 109) (show inR 109 by decide) hR3
  · exact fk_Y_sayEscaped_112 hy rfl rv1 rfl rv2 rfl rv3 rfl rv4 rfl rv5 rfl rv6 (e_n 117) (show inR 117 by decide) hR3
noncomputable def nk_Y_sayEscaped_79 (v1 : Nat) (v2 : Int) (v3 : Int) (v4 : Int) (v5 : Int) (v6 : Int) (m : YS) : Option ((Int × YS) ⊕ (YS)) :=
  if v6 = 38 then
    nk_Y_sayEscaped_94 v1 v2 v3 v4 v5 v6 97 m
  else
    nk_Y_sayEscaped_94 v1 v2 v3 v4 v5 v6 113 m
theorem fk_Y_sayEscaped_79 {w y : Prop} {g : g_S} {n : NS} {m : YS} (hy : y) {xv1 : Nat} {v1 : Nat} (ev1 : xv1 = yAd v1) (rv1 : v1 < 186 ∧ yT v1 = 1) {xv2 : Int32} {v2 : Int} (ev2 : xv2 = Int32.ofInt v2) (rv2 : inR v2) {xv3 : Int32} {v3 : Int} (ev3 : xv3 = Int32.ofInt v3) (rv3 : inR v3) {xv4 : Int32} {v4 : Int} (ev4 : xv4 = Int32.ofInt v4) (rv4 : inR v4) {xv5 : Int32} {v5 : Int} (ev5 : xv5 = Int32.ofInt v5) (rv5 : inR v5) {xv6 : Int32} {v6 : Int} (ev6 : xv6 = Int32.ofInt v6) (rv6 : inR v6) (hR : RC w y g n m) : Rf (RS (fun a b => RI a.1 b.1 ∧ RC w y a.2 n b.2) (fun a b => RC w y a n b)) (k_Y_sayEscaped_79 1838 xv1 xv2 xv3 xv4 xv5 xv6 g) (nk_Y_sayEscaped_79 v1 v2 v3 v4 v5 v6 m) := by
  subst ev1
  subst ev2
  subst ev3
  subst ev4
  subst ev5
  subst ev6
  unfold k_Y_sayEscaped_79 nk_Y_sayEscaped_79
  refine rf_eq rfl (e_n 38) rv6 (show inR 38 by decide) ?_ ?_
  · exact fk_Y_sayEscaped_94 hy rfl rv1 rfl rv2 rfl rv3 rfl rv4 rfl rv5 rfl rv6 (e_n 97) (show inR 97 by decide) hR
  · exact fk_Y_sayEscaped_94 hy rfl rv1 rfl rv2 rfl rv3 rfl rv4 rfl rv5 rfl rv6 (e_n 113) (show inR 113 by decide) hR
noncomputable def nk_Y_sayEscaped_59 (v1 : Nat) (v2 : Int) (v3 : Int) (v4 : Int) (v5 : Int) (v6 : Int) (m : YS) : Option ((Int × YS) ⊕ (YS)) :=
  (N_Y_say 38 m).bind fun m2 =>
  if v6 = 38 then
    nk_Y_sayEscaped_79 v1 v2 v3 v4 v5 v6 m2
  else
    if v6 = 34 then
      nk_Y_sayEscaped_79 v1 v2 v3 v4 v5 v6 m2
    else
      if v6 = 60 then
        nk_Y_sayEscaped_164 v1 v2 v3 v4 v5 108 m2
      else
        nk_Y_sayEscaped_164 v1 v2 v3 v4 v5 103 m2
theorem fk_Y_sayEscaped_59 {w y : Prop} {g : g_S} {n : NS} {m : YS} (hy : y) {xv1 : Nat} {v1 : Nat} (ev1 : xv1 = yAd v1) (rv1 : v1 < 186 ∧ yT v1 = 1) {xv2 : Int32} {v2 : Int} (ev2 : xv2 = Int32.ofInt v2) (rv2 : inR v2) {xv3 : Int32} {v3 : Int} (ev3 : xv3 = Int32.ofInt v3) (rv3 : inR v3) {xv4 : Int32} {v4 : Int} (ev4 : xv4 = Int32.ofInt v4) (rv4 : inR v4) {xv5 : Int32} {v5 : Int} (ev5 : xv5 = Int32.ofInt v5) (rv5 : inR v5) {xv6 : Int32} {v6 : Int} (ev6 : xv6 = Int32.ofInt v6) (rv6 : inR v6) (hR : RC w y g n m) : Rf (RS (fun a b => RI a.1 b.1 ∧ RC w y a.2 n b.2) (fun a b => RC w y a n b)) (k_Y_sayEscaped_59 1838 xv1 xv2 xv3 xv4 xv5 xv6 g) (nk_Y_sayEscaped_59 v1 v2 v3 v4 v5 v6 m) := by
  subst ev1
  subst ev2
  subst ev3
  subst ev4
  subst ev5
  subst ev6
  unfold k_Y_sayEscaped_59 nk_Y_sayEscaped_59
  refine v_c (y_gt hR hy) ?_
  refine rf_bind (f_Y_say hy (e_n 38) (show inR 38 by decide) hR) (fun g4 m2 hR3 => ?_)
  refine rf_eq rfl (e_n 38) rv6 (show inR 38 by decide) ?_ ?_
  · exact fk_Y_sayEscaped_79 hy rfl rv1 rfl rv2 rfl rv3 rfl rv4 rfl rv5 rfl rv6 hR3
  · refine rf_eq rfl (e_n 34) rv6 (show inR 34 by decide) ?_ ?_
    · exact fk_Y_sayEscaped_79 hy rfl rv1 rfl rv2 rfl rv3 rfl rv4 rfl rv5 rfl rv6 hR3
    · refine rf_eq rfl (e_n 60) rv6 (show inR 60 by decide) ?_ ?_
      · exact fk_Y_sayEscaped_164 hy rfl rv1 rfl rv2 rfl rv3 rfl rv4 rfl rv5 (e_n 108) (show inR 108 by decide) hR3
      · exact fk_Y_sayEscaped_164 hy rfl rv1 rfl rv2 rfl rv3 rfl rv4 rfl rv5 (e_n 103) (show inR 103 by decide) hR3
noncomputable def nk_Y_sayEscaped_50 (v1 : Nat) (v2 : Int) (v3 : Int) (v4 : Int) (v5 : Int) (v6 : Int) (m : YS) : Option ((Int × YS) ⊕ (YS)) :=
  (N_Y_say v6 m).bind fun m2 =>
  ck (v5 + 1) <|
  some (.inl (v5 + 1, m2))
theorem fk_Y_sayEscaped_50 {w y : Prop} {g : g_S} {n : NS} {m : YS} (hy : y) {xv1 : Nat} {v1 : Nat} (ev1 : xv1 = yAd v1) (rv1 : v1 < 186 ∧ yT v1 = 1) {xv2 : Int32} {v2 : Int} (ev2 : xv2 = Int32.ofInt v2) (rv2 : inR v2) {xv3 : Int32} {v3 : Int} (ev3 : xv3 = Int32.ofInt v3) (rv3 : inR v3) {xv4 : Int32} {v4 : Int} (ev4 : xv4 = Int32.ofInt v4) (rv4 : inR v4) {xv5 : Int32} {v5 : Int} (ev5 : xv5 = Int32.ofInt v5) (rv5 : inR v5) {xv6 : Int32} {v6 : Int} (ev6 : xv6 = Int32.ofInt v6) (rv6 : inR v6) (hR : RC w y g n m) : Rf (RS (fun a b => RI a.1 b.1 ∧ RC w y a.2 n b.2) (fun a b => RC w y a n b)) (k_Y_sayEscaped_50 1838 xv1 xv2 xv3 xv4 xv5 xv6 g) (nk_Y_sayEscaped_50 v1 v2 v3 v4 v5 v6 m) := by
  subst ev1
  subst ev2
  subst ev3
  subst ev4
  subst ev5
  subst ev6
  unfold k_Y_sayEscaped_50 nk_Y_sayEscaped_50
  refine v_c (y_gt hR hy) ?_
  refine rf_bind (f_Y_say hy rfl rv6 hR) (fun g4 m2 hR3 => ?_)
  refine rf_ck (fun h5 => ?_)
  exact rf_ok (by exact ⟨⟨(e_add rfl (e_n 1)), h5⟩, hR3⟩)
noncomputable def nb_Y_sayEscaped_3 (v1 : Nat) (v2 : Int) (v3 : Int) (v4 : Int) (v5 : Int) (m : YS) : Option ((Int × YS) ⊕ (YS)) :=
  if v5 < v3 then
    ck (v2 + v5) <|
    ix (v2 + v5) (yLn v1 : Int) <|
    if v4 = 0 then
      if (m v1 (v2 + v5)) = 60 then
        nk_Y_sayEscaped_59 v1 v2 v3 v4 v5 (m v1 (v2 + v5)) m
      else
        if (m v1 (v2 + v5)) = 62 then
          nk_Y_sayEscaped_59 v1 v2 v3 v4 v5 (m v1 (v2 + v5)) m
        else
          if (m v1 (v2 + v5)) = 38 then
            nk_Y_sayEscaped_59 v1 v2 v3 v4 v5 (m v1 (v2 + v5)) m
          else
            if (m v1 (v2 + v5)) = 34 then
              nk_Y_sayEscaped_59 v1 v2 v3 v4 v5 (m v1 (v2 + v5)) m
            else
              nk_Y_sayEscaped_50 v1 v2 v3 v4 v5 (m v1 (v2 + v5)) m
    else
      nk_Y_sayEscaped_50 v1 v2 v3 v4 v5 (m v1 (v2 + v5)) m
  else
    some (.inr m)
theorem fb_Y_sayEscaped_3 {w y : Prop} {g : g_S} {n : NS} {m : YS} (hy : y) {xv1 : Nat} {v1 : Nat} (ev1 : xv1 = yAd v1) (rv1 : v1 < 186 ∧ yT v1 = 1) {xv2 : Int32} {v2 : Int} (ev2 : xv2 = Int32.ofInt v2) (rv2 : inR v2) {xv3 : Int32} {v3 : Int} (ev3 : xv3 = Int32.ofInt v3) (rv3 : inR v3) {xv4 : Int32} {v4 : Int} (ev4 : xv4 = Int32.ofInt v4) (rv4 : inR v4) {xv5 : Int32} {v5 : Int} (ev5 : xv5 = Int32.ofInt v5) (rv5 : inR v5) (hR : RC w y g n m) : Rf (RS (fun a b => RI a.1 b.1 ∧ RC w y a.2 n b.2) (fun a b => RC w y a n b)) (b_Y_sayEscaped_3 1838 xv1 xv2 xv3 xv4 xv5 g) (nb_Y_sayEscaped_3 v1 v2 v3 v4 v5 m) := by
  subst ev1
  subst ev2
  subst ev3
  subst ev4
  subst ev5
  unfold b_Y_sayEscaped_3 nb_Y_sayEscaped_3
  refine rf_lt rfl rfl rv5 rv3 ?_ ?_
  · refine rf_ck (fun h2 => ?_)
    refine y_aB hR hy rv1 rfl (e_add rfl rfl) h2 (fun h3 h4 => ?_)
    refine rf_eq rfl (e_n 0) rv4 (show inR 0 by decide) ?_ ?_
    · refine rf_eq rfl (e_n 60) (inB.r h4) (show inR 60 by decide) ?_ ?_
      · exact fk_Y_sayEscaped_59 hy rfl rv1 rfl rv2 rfl rv3 rfl rv4 rfl rv5 rfl (inB.r h4) hR
      · refine rf_eq rfl (e_n 62) (inB.r h4) (show inR 62 by decide) ?_ ?_
        · exact fk_Y_sayEscaped_59 hy rfl rv1 rfl rv2 rfl rv3 rfl rv4 rfl rv5 rfl (inB.r h4) hR
        · refine rf_eq rfl (e_n 38) (inB.r h4) (show inR 38 by decide) ?_ ?_
          · exact fk_Y_sayEscaped_59 hy rfl rv1 rfl rv2 rfl rv3 rfl rv4 rfl rv5 rfl (inB.r h4) hR
          · refine rf_eq rfl (e_n 34) (inB.r h4) (show inR 34 by decide) ?_ ?_
            · exact fk_Y_sayEscaped_59 hy rfl rv1 rfl rv2 rfl rv3 rfl rv4 rfl rv5 rfl (inB.r h4) hR
            · exact fk_Y_sayEscaped_50 hy rfl rv1 rfl rv2 rfl rv3 rfl rv4 rfl rv5 rfl (inB.r h4) hR
    · exact fk_Y_sayEscaped_50 hy rfl rv1 rfl rv2 rfl rv3 rfl rv4 rfl rv5 rfl (inB.r h4) hR
  · exact rf_ok (by exact hR)
noncomputable def NL_Y_sayEscaped_3 (v1 : Nat) (v2 : Int) (v3 : Int) (v4 : Int) (v5 : Int) (m : YS) : Option (YS) :=
  it (fun s : Int × YS => nb_Y_sayEscaped_3 v1 v2 v3 v4 s.1 s.2) (v5, m)
theorem fL_Y_sayEscaped_3 {w y : Prop} {g : g_S} {n : NS} {m : YS} (hy : y) {xv1 : Nat} {v1 : Nat} (ev1 : xv1 = yAd v1) (rv1 : v1 < 186 ∧ yT v1 = 1) {xv2 : Int32} {v2 : Int} (ev2 : xv2 = Int32.ofInt v2) (rv2 : inR v2) {xv3 : Int32} {v3 : Int} (ev3 : xv3 = Int32.ofInt v3) (rv3 : inR v3) {xv4 : Int32} {v4 : Int} (ev4 : xv4 = Int32.ofInt v4) (rv4 : inR v4) {xv5 : Int32} {v5 : Int} (ev5 : xv5 = Int32.ofInt v5) (rv5 : inR v5) (hR : RC w y g n m) : Rf (fun a b => RC w y a n b) (L_Y_sayEscaped_3 1838 xv1 xv2 xv3 xv4 xv5 g) (NL_Y_sayEscaped_3 v1 v2 v3 v4 v5 m) := by
  subst ev1
  subst ev2
  subst ev3
  subst ev4
  subst ev5
  unfold L_Y_sayEscaped_3 NL_Y_sayEscaped_3
  refine rf_it (I := (fun a b => RI a.1 b.1 ∧ RC w y a.2 n b.2)) (fun s t h => ?_) ⟨⟨rfl, rv5⟩, hR⟩
  exact fb_Y_sayEscaped_3 hy rfl rv1 rfl rv2 rfl rv3 rfl rv4 h.1.1 h.1.2 h.2
theorem NL_Y_sayEscaped_3_eq (v1 : Nat) (v2 : Int) (v3 : Int) (v4 : Int) (v5 : Int) (m : YS) : NL_Y_sayEscaped_3 v1 v2 v3 v4 v5 m = itc (nb_Y_sayEscaped_3 v1 v2 v3 v4 v5 m) (fun s => NL_Y_sayEscaped_3 v1 v2 v3 v4 s.1 s.2) := it_eq2 (fun s : Int × YS => nb_Y_sayEscaped_3 v1 v2 v3 v4 s.1 s.2) (v5, m)
noncomputable def N_Y_sayEscaped (v1 : Nat) (v2 : Int) (v3 : Int) (v4 : Int) (m : YS) : Option (YS) :=
  (NL_Y_sayEscaped_3 v1 v2 v3 v4 0 m).bind <| fun m1 =>
  some m1
theorem f_Y_sayEscaped {w y : Prop} {g : g_S} {n : NS} {m : YS} (hy : y) {xv1 : Nat} {v1 : Nat} (ev1 : xv1 = yAd v1) (rv1 : v1 < 186 ∧ yT v1 = 1) {xv2 : Int32} {v2 : Int} (ev2 : xv2 = Int32.ofInt v2) (rv2 : inR v2) {xv3 : Int32} {v3 : Int} (ev3 : xv3 = Int32.ofInt v3) (rv3 : inR v3) {xv4 : Int32} {v4 : Int} (ev4 : xv4 = Int32.ofInt v4) (rv4 : inR v4) (hR : RC w y g n m) : Rf (fun a b => RC w y a n b) (M_Y_sayEscaped 1838 xv1 xv2 xv3 xv4 g) (N_Y_sayEscaped v1 v2 v3 v4 m) := by
  subst ev1
  subst ev2
  subst ev3
  subst ev4
  unfold M_Y_sayEscaped N_Y_sayEscaped
  refine rf_bind (fL_Y_sayEscaped_3 hy rfl rv1 rfl rv2 rfl rv3 rfl rv4 (e_n 0) (show inR 0 by decide) hR) (fun a2 m1 h => ?_)
  have hR3 : RC w y a2 n m1 := h
  exact rf_ok (by exact hR3)
noncomputable def nb_Y_sayAll_3 (v1 : Nat) (v2 : Int) (v3 : Int) (v4 : Int) (m : YS) : Option ((Int × YS) ⊕ (YS)) :=
  if v4 < v3 then
    ck (v2 + v4) <|
    ix (v2 + v4) (yLn v1 : Int) <|
    (N_Y_say (m v1 (v2 + v4)) m).bind fun m6 =>
    ck (v4 + 1) <|
    some (.inl (v4 + 1, m6))
  else
    some (.inr m)
theorem fb_Y_sayAll_3 {w y : Prop} {g : g_S} {n : NS} {m : YS} (hy : y) {xv1 : Nat} {v1 : Nat} (ev1 : xv1 = yAd v1) (rv1 : v1 < 186 ∧ yT v1 = 1) {xv2 : Int32} {v2 : Int} (ev2 : xv2 = Int32.ofInt v2) (rv2 : inR v2) {xv3 : Int32} {v3 : Int} (ev3 : xv3 = Int32.ofInt v3) (rv3 : inR v3) {xv4 : Int32} {v4 : Int} (ev4 : xv4 = Int32.ofInt v4) (rv4 : inR v4) (hR : RC w y g n m) : Rf (RS (fun a b => RI a.1 b.1 ∧ RC w y a.2 n b.2) (fun a b => RC w y a n b)) (b_Y_sayAll_3 1838 xv1 xv2 xv3 xv4 g) (nb_Y_sayAll_3 v1 v2 v3 v4 m) := by
  subst ev1
  subst ev2
  subst ev3
  subst ev4
  unfold b_Y_sayAll_3 nb_Y_sayAll_3
  refine rf_lt rfl rfl rv4 rv3 ?_ ?_
  · refine rf_ck (fun h2 => ?_)
    refine y_aB hR hy rv1 rfl (e_add rfl rfl) h2 (fun h3 h4 => ?_)
    refine v_c (y_gt hR hy) ?_
    refine rf_bind (f_Y_say hy rfl (inB.r h4) hR) (fun g8 m6 hR7 => ?_)
    refine rf_ck (fun h9 => ?_)
    exact rf_ok (by exact ⟨⟨(e_add rfl (e_n 1)), h9⟩, hR7⟩)
  · exact rf_ok (by exact hR)
noncomputable def NL_Y_sayAll_3 (v1 : Nat) (v2 : Int) (v3 : Int) (v4 : Int) (m : YS) : Option (YS) :=
  it (fun s : Int × YS => nb_Y_sayAll_3 v1 v2 v3 s.1 s.2) (v4, m)
theorem fL_Y_sayAll_3 {w y : Prop} {g : g_S} {n : NS} {m : YS} (hy : y) {xv1 : Nat} {v1 : Nat} (ev1 : xv1 = yAd v1) (rv1 : v1 < 186 ∧ yT v1 = 1) {xv2 : Int32} {v2 : Int} (ev2 : xv2 = Int32.ofInt v2) (rv2 : inR v2) {xv3 : Int32} {v3 : Int} (ev3 : xv3 = Int32.ofInt v3) (rv3 : inR v3) {xv4 : Int32} {v4 : Int} (ev4 : xv4 = Int32.ofInt v4) (rv4 : inR v4) (hR : RC w y g n m) : Rf (fun a b => RC w y a n b) (L_Y_sayAll_3 1838 xv1 xv2 xv3 xv4 g) (NL_Y_sayAll_3 v1 v2 v3 v4 m) := by
  subst ev1
  subst ev2
  subst ev3
  subst ev4
  unfold L_Y_sayAll_3 NL_Y_sayAll_3
  refine rf_it (I := (fun a b => RI a.1 b.1 ∧ RC w y a.2 n b.2)) (fun s t h => ?_) ⟨⟨rfl, rv4⟩, hR⟩
  exact fb_Y_sayAll_3 hy rfl rv1 rfl rv2 rfl rv3 h.1.1 h.1.2 h.2
theorem NL_Y_sayAll_3_eq (v1 : Nat) (v2 : Int) (v3 : Int) (v4 : Int) (m : YS) : NL_Y_sayAll_3 v1 v2 v3 v4 m = itc (nb_Y_sayAll_3 v1 v2 v3 v4 m) (fun s => NL_Y_sayAll_3 v1 v2 v3 s.1 s.2) := it_eq2 (fun s : Int × YS => nb_Y_sayAll_3 v1 v2 v3 s.1 s.2) (v4, m)
noncomputable def N_Y_sayAll (v1 : Nat) (v2 : Int) (v3 : Int) (m : YS) : Option (YS) :=
  (NL_Y_sayAll_3 v1 v2 v3 0 m).bind <| fun m1 =>
  some m1
theorem f_Y_sayAll {w y : Prop} {g : g_S} {n : NS} {m : YS} (hy : y) {xv1 : Nat} {v1 : Nat} (ev1 : xv1 = yAd v1) (rv1 : v1 < 186 ∧ yT v1 = 1) {xv2 : Int32} {v2 : Int} (ev2 : xv2 = Int32.ofInt v2) (rv2 : inR v2) {xv3 : Int32} {v3 : Int} (ev3 : xv3 = Int32.ofInt v3) (rv3 : inR v3) (hR : RC w y g n m) : Rf (fun a b => RC w y a n b) (M_Y_sayAll 1838 xv1 xv2 xv3 g) (N_Y_sayAll v1 v2 v3 m) := by
  subst ev1
  subst ev2
  subst ev3
  unfold M_Y_sayAll N_Y_sayAll
  refine rf_bind (fL_Y_sayAll_3 hy rfl rv1 rfl rv2 rfl rv3 (e_n 0) (show inR 0 by decide) hR) (fun a2 m1 h => ?_)
  have hR3 : RC w y a2 n m1 := h
  exact rf_ok (by exact hR3)
noncomputable def nb_Y_sayBegin_28 (v1 : Int) (v2 : Int) (m : YS) : Option ((Int × YS) ⊕ (YS)) :=
  ck (4 * v1) <|
  ix v1 120 <|
  ck ((4 * v1) + (m 56 v1)) <|
  if v2 < ((4 * v1) + (m 56 v1)) then
    (N_Y_say 32 m).bind fun m8 =>
    ck (8 * v2) <|
    ix v2 480 <|
    (N_Y_sayAll 57 (8 * v2) (m8 58 v2) m8).bind fun m17 =>
    (N_Y_say 61 m17).bind fun m21 =>
    (N_Y_say 34 m21).bind fun m25 =>
    ck (60 * v2) <|
    ix v2 480 <|
    (N_Y_sayEscaped 59 (60 * v2) (m25 60 v2) 0 m25).bind fun m34 =>
    (N_Y_say 34 m34).bind fun m38 =>
    ck (v2 + 1) <|
    some (.inl (v2 + 1, m38))
  else
    some (.inr m)
theorem fb_Y_sayBegin_28 {w y : Prop} {g : g_S} {n : NS} {m : YS} (hy : y) {xv1 : Int32} {v1 : Int} (ev1 : xv1 = Int32.ofInt v1) (rv1 : inR v1) {xv2 : Int32} {v2 : Int} (ev2 : xv2 = Int32.ofInt v2) (rv2 : inR v2) (hR : RC w y g n m) : Rf (RS (fun a b => RI a.1 b.1 ∧ RC w y a.2 n b.2) (fun a b => RC w y a n b)) (b_Y_sayBegin_28 1838 xv1 xv2 g) (nb_Y_sayBegin_28 v1 v2 m) := by
  subst ev1
  subst ev2
  unfold b_Y_sayBegin_28 nb_Y_sayBegin_28
  refine rf_ck (fun h1 => ?_)
  refine y_Q hR hy ya56.1 (by decide) ?_
  refine y_aI hR hy ya56 yl56 rfl rv1 (fun h3 h4 => ?_)
  refine rf_ck (fun h5 => ?_)
  refine rf_lt rfl (e_add (e_mul (e_n 4) rfl) rfl) rv2 h5 ?_ ?_
  · refine v_c (y_gt hR hy) ?_
    refine rf_bind (f_Y_say hy (e_n 32) (show inR 32 by decide) hR) (fun g10 m8 hR9 => ?_)
    refine y_Q hR9 hy ya57.1 (by decide) ?_
    refine rf_ck (fun h12 => ?_)
    refine y_Q hR9 hy ya58.1 (by decide) ?_
    refine y_aI hR9 hy ya58 yl58 rfl rv2 (fun h14 h15 => ?_)
    refine v_c (y_gt hR9 hy) ?_
    refine rf_bind (f_Y_sayAll hy rfl ya57 (e_mul (e_n 8) rfl) h12 rfl h15 hR9) (fun g19 m17 hR18 => ?_)
    refine v_c (y_gt hR18 hy) ?_
    refine rf_bind (f_Y_say hy (e_n 61) (show inR 61 by decide) hR18) (fun g23 m21 hR22 => ?_)
    refine v_c (y_gt hR22 hy) ?_
    refine rf_bind (f_Y_say hy (e_n 34) (show inR 34 by decide) hR22) (fun g27 m25 hR26 => ?_)
    refine y_Q hR26 hy ya59.1 (by decide) ?_
    refine rf_ck (fun h29 => ?_)
    refine y_Q hR26 hy ya60.1 (by decide) ?_
    refine y_aI hR26 hy ya60 yl60 rfl rv2 (fun h31 h32 => ?_)
    refine v_c (y_gt hR26 hy) ?_
    refine rf_bind (f_Y_sayEscaped hy rfl ya59 (e_mul (e_n 60) rfl) h29 rfl h32 (e_n 0) (show inR 0 by decide) hR26) (fun g36 m34 hR35 => ?_)
    refine v_c (y_gt hR35 hy) ?_
    refine rf_bind (f_Y_say hy (e_n 34) (show inR 34 by decide) hR35) (fun g40 m38 hR39 => ?_)
    refine rf_ck (fun h41 => ?_)
    exact rf_ok (by exact ⟨⟨(e_add rfl (e_n 1)), h41⟩, hR39⟩)
  · exact rf_ok (by exact hR)
noncomputable def NL_Y_sayBegin_28 (v1 : Int) (v2 : Int) (m : YS) : Option (YS) :=
  it (fun s : Int × YS => nb_Y_sayBegin_28 v1 s.1 s.2) (v2, m)
theorem fL_Y_sayBegin_28 {w y : Prop} {g : g_S} {n : NS} {m : YS} (hy : y) {xv1 : Int32} {v1 : Int} (ev1 : xv1 = Int32.ofInt v1) (rv1 : inR v1) {xv2 : Int32} {v2 : Int} (ev2 : xv2 = Int32.ofInt v2) (rv2 : inR v2) (hR : RC w y g n m) : Rf (fun a b => RC w y a n b) (L_Y_sayBegin_28 1838 xv1 xv2 g) (NL_Y_sayBegin_28 v1 v2 m) := by
  subst ev1
  subst ev2
  unfold L_Y_sayBegin_28 NL_Y_sayBegin_28
  refine rf_it (I := (fun a b => RI a.1 b.1 ∧ RC w y a.2 n b.2)) (fun s t h => ?_) ⟨⟨rfl, rv2⟩, hR⟩
  exact fb_Y_sayBegin_28 hy rfl rv1 h.1.1 h.1.2 h.2
theorem NL_Y_sayBegin_28_eq (v1 : Int) (v2 : Int) (m : YS) : NL_Y_sayBegin_28 v1 v2 m = itc (nb_Y_sayBegin_28 v1 v2 m) (fun s => NL_Y_sayBegin_28 v1 s.1 s.2) := it_eq2 (fun s : Int × YS => nb_Y_sayBegin_28 v1 s.1 s.2) (v2, m)
noncomputable def N_Y_sayBegin (v1 : Int) (m : YS) : Option (YS) :=
  (N_Y_say 60 m).bind fun m2 =>
  ck (8 * v1) <|
  ix v1 120 <|
  (N_Y_sayAll 47 (8 * v1) (m2 48 v1) m2).bind fun m11 =>
  ck (4 * v1) <|
  (NL_Y_sayBegin_28 v1 (4 * v1) m11).bind <| fun m15 =>
  (N_Y_say 62 m15).bind fun m19 =>
  some m19
theorem f_Y_sayBegin {w y : Prop} {g : g_S} {n : NS} {m : YS} (hy : y) {xv1 : Int32} {v1 : Int} (ev1 : xv1 = Int32.ofInt v1) (rv1 : inR v1) (hR : RC w y g n m) : Rf (fun a b => RC w y a n b) (M_Y_sayBegin 1838 xv1 g) (N_Y_sayBegin v1 m) := by
  subst ev1
  unfold M_Y_sayBegin N_Y_sayBegin
  refine v_c (y_gt hR hy) ?_
  refine rf_bind (f_Y_say hy (e_n 60) (show inR 60 by decide) hR) (fun g4 m2 hR3 => ?_)
  refine y_Q hR3 hy ya47.1 (by decide) ?_
  refine rf_ck (fun h6 => ?_)
  refine y_Q hR3 hy ya48.1 (by decide) ?_
  refine y_aI hR3 hy ya48 yl48 rfl rv1 (fun h8 h9 => ?_)
  refine v_c (y_gt hR3 hy) ?_
  refine rf_bind (f_Y_sayAll hy rfl ya47 (e_mul (e_n 8) rfl) h6 rfl h9 hR3) (fun g13 m11 hR12 => ?_)
  refine rf_ck (fun h14 => ?_)
  refine rf_bind (fL_Y_sayBegin_28 hy rfl rv1 (e_mul (e_n 4) rfl) h14 hR12) (fun a16 m15 h => ?_)
  have hR17 : RC w y a16 n m15 := h
  refine v_c (y_gt hR17 hy) ?_
  refine rf_bind (f_Y_say hy (e_n 62) (show inR 62 by decide) hR17) (fun g21 m19 hR20 => ?_)
  exact rf_ok (by exact hR20)
noncomputable def N_Y_isEmptyTag (v0 : Int) (m : YS) : Option (Int) :=
  if v0 < 10 then
    some 0
  else
    if 13 < v0 then
      some 0
    else
      some 1
theorem f_Y_isEmptyTag {w y : Prop} {g : g_S} {n : NS} {m : YS} (hy : y) {xv0 : Int32} {v0 : Int} (ev0 : xv0 = Int32.ofInt v0) (rv0 : inR v0) (hR : RC w y g n m) : Rf (fun a b => RZ a b) (M_Y_isEmptyTag xv0 g) (N_Y_isEmptyTag v0 m) := by
  subst ev0
  unfold M_Y_isEmptyTag N_Y_isEmptyTag
  refine rf_lt rfl (e_n 10) rv0 (show inR 10 by decide) ?_ ?_
  · exact rf_ok (by exact ⟨(e_n 0), (.inl rfl)⟩)
  · refine rf_lt (e_n 13) rfl (show inR 13 by decide) rv0 ?_ ?_
    · exact rf_ok (by exact ⟨(e_n 0), (.inl rfl)⟩)
    · exact rf_ok (by exact ⟨(e_n 1), (.inr rfl)⟩)
noncomputable def N_Y_sayEnd (v1 : Int) (m : YS) : Option (YS) :=
  ix v1 120 <|
  (N_Y_isEmptyTag (m 46 v1) m).bind fun z5 =>
  if z5 = 0 then
    (N_Y_say 60 m).bind fun m10 =>
    (N_Y_say 47 m10).bind fun m14 =>
    ck (8 * v1) <|
    ix v1 120 <|
    (N_Y_sayAll 47 (8 * v1) (m14 48 v1) m14).bind fun m23 =>
    (N_Y_say 62 m23).bind fun m27 =>
    some m27
  else
    some m
theorem f_Y_sayEnd {w y : Prop} {g : g_S} {n : NS} {m : YS} (hy : y) {xv1 : Int32} {v1 : Int} (ev1 : xv1 = Int32.ofInt v1) (rv1 : inR v1) (hR : RC w y g n m) : Rf (fun a b => RC w y a n b) (M_Y_sayEnd 1838 xv1 g) (N_Y_sayEnd v1 m) := by
  subst ev1
  unfold M_Y_sayEnd N_Y_sayEnd
  refine y_Q hR hy ya46.1 (by decide) ?_
  refine y_aI hR hy ya46 yl46 rfl rv1 (fun h2 h3 => ?_)
  refine rf_bind (f_Y_isEmptyTag hy rfl h3 hR) (fun a7 z5 h => ?_)
  obtain ⟨rfl, r6⟩ := h
  refine rf_eq rfl (e_n 0) (inZ.r r6) (show inR 0 by decide) ?_ ?_
  · refine v_c (y_gt hR hy) ?_
    refine rf_bind (f_Y_say hy (e_n 60) (show inR 60 by decide) hR) (fun g12 m10 hR11 => ?_)
    refine v_c (y_gt hR11 hy) ?_
    refine rf_bind (f_Y_say hy (e_n 47) (show inR 47 by decide) hR11) (fun g16 m14 hR15 => ?_)
    refine y_Q hR15 hy ya47.1 (by decide) ?_
    refine rf_ck (fun h18 => ?_)
    refine y_Q hR15 hy ya48.1 (by decide) ?_
    refine y_aI hR15 hy ya48 yl48 rfl rv1 (fun h20 h21 => ?_)
    refine v_c (y_gt hR15 hy) ?_
    refine rf_bind (f_Y_sayAll hy rfl ya47 (e_mul (e_n 8) rfl) h18 rfl h21 hR15) (fun g25 m23 hR24 => ?_)
    refine v_c (y_gt hR24 hy) ?_
    refine rf_bind (f_Y_say hy (e_n 62) (show inR 62 by decide) hR24) (fun g29 m27 hR28 => ?_)
    exact rf_ok (by exact hR28)
  · exact rf_ok (by exact hR)
noncomputable def nb_Y_serialise_128 (v1 : Int) (v2 : Int) (m : YS) : Option ((Int × YS) ⊕ (Int × YS)) :=
  if v2 = v1 then
    some (.inr (v2, m))
  else
    ix v2 120 <|
    if (m 52 v2) = (-1) then
      ix v2 120 <|
      (N_Y_sayEnd (m 49 v2) m).bind fun m10 =>
      some (.inl ((m 49 v2), m10))
    else
      some (.inr (v2, m))
theorem fb_Y_serialise_128 {w y : Prop} {g : g_S} {n : NS} {m : YS} (hy : y) {xv1 : Int32} {v1 : Int} (ev1 : xv1 = Int32.ofInt v1) (rv1 : inR v1) {xv2 : Int32} {v2 : Int} (ev2 : xv2 = Int32.ofInt v2) (rv2 : inR v2) (hR : RC w y g n m) : Rf (RS (fun a b => RI a.1 b.1 ∧ RC w y a.2 n b.2) (fun a b => RI a.1 b.1 ∧ RC w y a.2 n b.2)) (b_Y_serialise_128 1838 xv1 xv2 g) (nb_Y_serialise_128 v1 v2 m) := by
  subst ev1
  subst ev2
  unfold b_Y_serialise_128 nb_Y_serialise_128
  refine rf_eq rfl rfl rv2 rv1 ?_ ?_
  · exact rf_ok (by exact ⟨⟨rfl, rv2⟩, hR⟩)
  · refine y_Q hR hy ya52.1 (by decide) ?_
    refine y_aI hR hy ya52 yl52 rfl rv2 (fun h3 h4 => ?_)
    refine rf_eq rfl (e_m 1) h4 (show inR (-1) by decide) ?_ ?_
    · refine y_Q hR hy ya49.1 (by decide) ?_
      refine y_aI hR hy ya49 yl49 rfl rv2 (fun h7 h8 => ?_)
      refine v_c (y_gt hR hy) ?_
      refine rf_bind (f_Y_sayEnd hy rfl h8 hR) (fun g12 m10 hR11 => ?_)
      exact rf_ok (by exact ⟨⟨rfl, h8⟩, hR11⟩)
    · exact rf_ok (by exact ⟨⟨rfl, rv2⟩, hR⟩)
noncomputable def NL_Y_serialise_128 (v1 : Int) (v2 : Int) (m : YS) : Option (Int × YS) :=
  it (fun s : Int × YS => nb_Y_serialise_128 v1 s.1 s.2) (v2, m)
theorem fL_Y_serialise_128 {w y : Prop} {g : g_S} {n : NS} {m : YS} (hy : y) {xv1 : Int32} {v1 : Int} (ev1 : xv1 = Int32.ofInt v1) (rv1 : inR v1) {xv2 : Int32} {v2 : Int} (ev2 : xv2 = Int32.ofInt v2) (rv2 : inR v2) (hR : RC w y g n m) : Rf (fun a b => RI a.1 b.1 ∧ RC w y a.2 n b.2) (L_Y_serialise_128 1838 xv1 xv2 g) (NL_Y_serialise_128 v1 v2 m) := by
  subst ev1
  subst ev2
  unfold L_Y_serialise_128 NL_Y_serialise_128
  refine rf_it (I := (fun a b => RI a.1 b.1 ∧ RC w y a.2 n b.2)) (fun s t h => ?_) ⟨⟨rfl, rv2⟩, hR⟩
  exact fb_Y_serialise_128 hy rfl rv1 h.1.1 h.1.2 h.2
theorem NL_Y_serialise_128_eq (v1 : Int) (v2 : Int) (m : YS) : NL_Y_serialise_128 v1 v2 m = itc (nb_Y_serialise_128 v1 v2 m) (fun s => NL_Y_serialise_128 v1 s.1 s.2) := it_eq2 (fun s : Int × YS => nb_Y_serialise_128 v1 s.1 s.2) (v2, m)
noncomputable def nk_Y_serialise_168 (v1 : Int) (v2 : Int) (w0 : Int) (m : YS) : Option ((Int × Int × YS) ⊕ (YS)) :=
  if w0 = 0 then
    some (.inl (v2, w0, m))
  else
    ix v2 120 <|
    some (.inl ((m 52 v2), w0, m))
theorem fk_Y_serialise_168 {w y : Prop} {g : g_S} {n : NS} {m : YS} (hy : y) {xv1 : Int32} {v1 : Int} (ev1 : xv1 = Int32.ofInt v1) (rv1 : inR v1) {xv2 : Int32} {v2 : Int} (ev2 : xv2 = Int32.ofInt v2) (rv2 : inR v2) {xw0 : Int32} {w0 : Int} (ew0 : xw0 = Int32.ofInt w0) (rw0 : inR w0) (hR : RC w y g n m) : Rf (RS (fun a b => RI a.1 b.1 ∧ RI a.2.1 b.2.1 ∧ RC w y a.2.2 n b.2.2) (fun a b => RC w y a n b)) (k_Y_serialise_168 1838 xv1 xv2 xw0 g) (nk_Y_serialise_168 v1 v2 w0 m) := by
  subst ev1
  subst ev2
  subst ew0
  unfold k_Y_serialise_168 nk_Y_serialise_168
  refine rf_eq rfl (e_n 0) rw0 (show inR 0 by decide) ?_ ?_
  · exact rf_ok (by exact ⟨⟨rfl, rv2⟩, ⟨rfl, rw0⟩, hR⟩)
  · refine y_Q hR hy ya52.1 (by decide) ?_
    refine y_aI hR hy ya52 yl52 rfl rv2 (fun h3 h4 => ?_)
    exact rf_ok (by exact ⟨⟨rfl, h4⟩, ⟨rfl, rw0⟩, hR⟩)
noncomputable def nk_Y_serialise_158 (v1 : Int) (v2 : Int) (m : YS) : Option ((Int × Int × YS) ⊕ (YS)) :=
  if v2 = v1 then
    nk_Y_serialise_168 v1 v2 0 m
  else
    nk_Y_serialise_168 v1 v2 1 m
theorem fk_Y_serialise_158 {w y : Prop} {g : g_S} {n : NS} {m : YS} (hy : y) {xv1 : Int32} {v1 : Int} (ev1 : xv1 = Int32.ofInt v1) (rv1 : inR v1) {xv2 : Int32} {v2 : Int} (ev2 : xv2 = Int32.ofInt v2) (rv2 : inR v2) (hR : RC w y g n m) : Rf (RS (fun a b => RI a.1 b.1 ∧ RI a.2.1 b.2.1 ∧ RC w y a.2.2 n b.2.2) (fun a b => RC w y a n b)) (k_Y_serialise_158 1838 xv1 xv2 g) (nk_Y_serialise_158 v1 v2 m) := by
  subst ev1
  subst ev2
  unfold k_Y_serialise_158 nk_Y_serialise_158
  refine rf_eq rfl rfl rv2 rv1 ?_ ?_
  · exact fk_Y_serialise_168 hy rfl rv1 rfl rv2 (e_n 0) (show inR 0 by decide) hR
  · exact fk_Y_serialise_168 hy rfl rv1 rfl rv2 (e_n 1) (show inR 1 by decide) hR
noncomputable def nk_Y_serialise_92 (v1 : Int) (v2 : Int) (v3 : Int) (m : YS) : Option ((Int × Int × YS) ⊕ (YS)) :=
  ix v2 120 <|
  if (m 50 v2) = (-1) then
    ix v2 120 <|
    if (m 46 v2) = 17 then
      (NL_Y_serialise_128 v1 v2 m).bind <| u2 fun z9 m10 =>
      nk_Y_serialise_158 v1 z9 m10
    else
      (N_Y_sayEnd v2 m).bind fun m16 =>
      (NL_Y_serialise_128 v1 v2 m16).bind <| u2 fun z19 m20 =>
      nk_Y_serialise_158 v1 z19 m20
  else
    ix v2 120 <|
    some (.inl ((m 50 v2), v3, m))
theorem fk_Y_serialise_92 {w y : Prop} {g : g_S} {n : NS} {m : YS} (hy : y) {xv1 : Int32} {v1 : Int} (ev1 : xv1 = Int32.ofInt v1) (rv1 : inR v1) {xv2 : Int32} {v2 : Int} (ev2 : xv2 = Int32.ofInt v2) (rv2 : inR v2) {xv3 : Int32} {v3 : Int} (ev3 : xv3 = Int32.ofInt v3) (rv3 : inR v3) (hR : RC w y g n m) : Rf (RS (fun a b => RI a.1 b.1 ∧ RI a.2.1 b.2.1 ∧ RC w y a.2.2 n b.2.2) (fun a b => RC w y a n b)) (k_Y_serialise_92 1838 xv1 xv2 xv3 g) (nk_Y_serialise_92 v1 v2 v3 m) := by
  subst ev1
  subst ev2
  subst ev3
  unfold k_Y_serialise_92 nk_Y_serialise_92
  refine y_Q hR hy ya50.1 (by decide) ?_
  refine y_aI hR hy ya50 yl50 rfl rv2 (fun h2 h3 => ?_)
  refine rf_eq rfl (e_m 1) h3 (show inR (-1) by decide) ?_ ?_
  · refine y_Q hR hy ya46.1 (by decide) ?_
    refine y_aI hR hy ya46 yl46 rfl rv2 (fun h6 h7 => ?_)
    refine rf_eq rfl (e_n 17) h7 (show inR 17 by decide) ?_ ?_
    · refine rf_bind (fL_Y_serialise_128 hy rfl rv1 rfl rv2 hR) (fun a b h => ?_)
      obtain ⟨a11, a12⟩ := a
      obtain ⟨z9, m10⟩ := b
      refine rf_u2 ?_
      obtain ⟨rfl, r14⟩ := (show RI a11 z9 from h.1)
      have hR13 : RC w y a12 n m10 := h.2
      exact fk_Y_serialise_158 hy rfl rv1 rfl r14 hR13
    · refine v_c (y_gt hR hy) ?_
      refine rf_bind (f_Y_sayEnd hy rfl rv2 hR) (fun g18 m16 hR17 => ?_)
      refine rf_bind (fL_Y_serialise_128 hy rfl rv1 rfl rv2 hR17) (fun a b h => ?_)
      obtain ⟨a21, a22⟩ := a
      obtain ⟨z19, m20⟩ := b
      refine rf_u2 ?_
      obtain ⟨rfl, r24⟩ := (show RI a21 z19 from h.1)
      have hR23 : RC w y a22 n m20 := h.2
      exact fk_Y_serialise_158 hy rfl rv1 rfl r24 hR23
  · refine y_Q hR hy ya50.1 (by decide) ?_
    refine y_aI hR hy ya50 yl50 rfl rv2 (fun h26 h27 => ?_)
    exact rf_ok (by exact ⟨⟨rfl, h27⟩, ⟨rfl, rv3⟩, hR⟩)
noncomputable def nk_Y_serialise_81 (v1 : Int) (v2 : Int) (v3 : Int) (w0 : Int) (w1 : Int) (w2 : Int) (m : YS) : Option ((Int × Int × YS) ⊕ (YS)) :=
  (N_Y_sayEscaped 61 w2 w1 w0 m).bind fun m2 =>
  nk_Y_serialise_92 v1 v2 v3 m2
theorem fk_Y_serialise_81 {w y : Prop} {g : g_S} {n : NS} {m : YS} (hy : y) {xv1 : Int32} {v1 : Int} (ev1 : xv1 = Int32.ofInt v1) (rv1 : inR v1) {xv2 : Int32} {v2 : Int} (ev2 : xv2 = Int32.ofInt v2) (rv2 : inR v2) {xv3 : Int32} {v3 : Int} (ev3 : xv3 = Int32.ofInt v3) (rv3 : inR v3) {xw0 : Int32} {w0 : Int} (ew0 : xw0 = Int32.ofInt w0) (rw0 : inR w0) {xw1 : Int32} {w1 : Int} (ew1 : xw1 = Int32.ofInt w1) (rw1 : inR w1) {xw2 : Int32} {w2 : Int} (ew2 : xw2 = Int32.ofInt w2) (rw2 : inR w2) (hR : RC w y g n m) : Rf (RS (fun a b => RI a.1 b.1 ∧ RI a.2.1 b.2.1 ∧ RC w y a.2.2 n b.2.2) (fun a b => RC w y a n b)) (k_Y_serialise_81 1838 xv1 xv2 xv3 xw0 xw1 xw2 (yAd 61) 1838 g) (nk_Y_serialise_81 v1 v2 v3 w0 w1 w2 m) := by
  subst ev1
  subst ev2
  subst ev3
  subst ew0
  subst ew1
  subst ew2
  unfold k_Y_serialise_81 nk_Y_serialise_81
  refine v_c (y_gt hR hy) ?_
  refine rf_bind (f_Y_sayEscaped hy rfl ya61 rfl rw2 rfl rw1 rfl rw0 hR) (fun g4 m2 hR3 => ?_)
  exact fk_Y_serialise_92 hy rfl rv1 rfl rv2 rfl rv3 hR3
noncomputable def nk_Y_serialise_80 (v1 : Int) (v2 : Int) (v3 : Int) (w0 : Int) (w1 : Int) (m : YS) : Option ((Int × Int × YS) ⊕ (YS)) :=
  nk_Y_serialise_81 v1 v2 v3 0 w0 w1 m
theorem fk_Y_serialise_80 {w y : Prop} {g : g_S} {n : NS} {m : YS} (hy : y) {xv1 : Int32} {v1 : Int} (ev1 : xv1 = Int32.ofInt v1) (rv1 : inR v1) {xv2 : Int32} {v2 : Int} (ev2 : xv2 = Int32.ofInt v2) (rv2 : inR v2) {xv3 : Int32} {v3 : Int} (ev3 : xv3 = Int32.ofInt v3) (rv3 : inR v3) {xw0 : Int32} {w0 : Int} (ew0 : xw0 = Int32.ofInt w0) (rw0 : inR w0) {xw1 : Int32} {w1 : Int} (ew1 : xw1 = Int32.ofInt w1) (rw1 : inR w1) (hR : RC w y g n m) : Rf (RS (fun a b => RI a.1 b.1 ∧ RI a.2.1 b.2.1 ∧ RC w y a.2.2 n b.2.2) (fun a b => RC w y a n b)) (k_Y_serialise_80 1838 xv1 xv2 xv3 xw0 xw1 (yAd 61) 1838 g) (nk_Y_serialise_80 v1 v2 v3 w0 w1 m) := by
  subst ev1
  subst ev2
  subst ev3
  subst ew0
  subst ew1
  unfold k_Y_serialise_80 nk_Y_serialise_80
  exact fk_Y_serialise_81 hy rfl rv1 rfl rv2 rfl rv3 (e_n 0) (show inR 0 by decide) rfl rw0 rfl rw1 hR
noncomputable def nb_Y_serialise_19 (v1 : Int) (v2 : Int) (v3 : Int) (m : YS) : Option ((Int × Int × YS) ⊕ (YS)) :=
  if v3 = 0 then
    some (.inr m)
  else
    ix v2 120 <|
    if (m 46 v2) = 17 then
      ck (400 * v2) <|
      ix v2 120 <|
      ix v2 120 <|
      if (m 49 v2) = (-1) then
        nk_Y_serialise_80 v1 v2 v3 (m 62 v2) (400 * v2) m
      else
        ix v2 120 <|
        ix (m 49 v2) 120 <|
        if (m 46 (m 49 v2)) = 15 then
          nk_Y_serialise_81 v1 v2 v3 1 (m 62 v2) (400 * v2) m
        else
          nk_Y_serialise_80 v1 v2 v3 (m 62 v2) (400 * v2) m
    else
      (N_Y_sayBegin v2 m).bind fun m23 =>
      nk_Y_serialise_92 v1 v2 v3 m23
theorem fb_Y_serialise_19 {w y : Prop} {g : g_S} {n : NS} {m : YS} (hy : y) {xv1 : Int32} {v1 : Int} (ev1 : xv1 = Int32.ofInt v1) (rv1 : inR v1) {xv2 : Int32} {v2 : Int} (ev2 : xv2 = Int32.ofInt v2) (rv2 : inR v2) {xv3 : Int32} {v3 : Int} (ev3 : xv3 = Int32.ofInt v3) (rv3 : inR v3) (hR : RC w y g n m) : Rf (RS (fun a b => RI a.1 b.1 ∧ RI a.2.1 b.2.1 ∧ RC w y a.2.2 n b.2.2) (fun a b => RC w y a n b)) (b_Y_serialise_19 1838 xv1 xv2 xv3 g) (nb_Y_serialise_19 v1 v2 v3 m) := by
  subst ev1
  subst ev2
  subst ev3
  unfold b_Y_serialise_19 nb_Y_serialise_19
  refine rf_eq rfl (e_n 0) rv3 (show inR 0 by decide) ?_ ?_
  · exact rf_ok (by exact hR)
  · refine y_Q hR hy ya46.1 (by decide) ?_
    refine y_aI hR hy ya46 yl46 rfl rv2 (fun h3 h4 => ?_)
    refine rf_eq rfl (e_n 17) h4 (show inR 17 by decide) ?_ ?_
    · refine y_Q hR hy ya61.1 (by decide) ?_
      refine rf_ck (fun h7 => ?_)
      refine y_Q hR hy ya62.1 (by decide) ?_
      refine y_aI hR hy ya62 yl62 rfl rv2 (fun h9 h10 => ?_)
      refine y_Q hR hy ya49.1 (by decide) ?_
      refine y_aI hR hy ya49 yl49 rfl rv2 (fun h12 h13 => ?_)
      refine rf_eq rfl (e_m 1) h13 (show inR (-1) by decide) ?_ ?_
      · exact fk_Y_serialise_80 hy rfl rv1 rfl rv2 rfl rv3 rfl h10 (e_mul (e_n 400) rfl) h7 hR
      · refine y_Q hR hy ya46.1 (by decide) ?_
        refine y_Q hR hy ya49.1 (by decide) ?_
        refine y_aI hR hy ya49 yl49 rfl rv2 (fun h17 h18 => ?_)
        refine y_aI hR hy ya46 yl46 rfl h18 (fun h19 h20 => ?_)
        refine rf_eq rfl (e_n 15) h20 (show inR 15 by decide) ?_ ?_
        · exact fk_Y_serialise_81 hy rfl rv1 rfl rv2 rfl rv3 (e_n 1) (show inR 1 by decide) rfl h10 (e_mul (e_n 400) rfl) h7 hR
        · exact fk_Y_serialise_80 hy rfl rv1 rfl rv2 rfl rv3 rfl h10 (e_mul (e_n 400) rfl) h7 hR
    · refine v_c (y_gt hR hy) ?_
      refine rf_bind (f_Y_sayBegin hy rfl rv2 hR) (fun g25 m23 hR24 => ?_)
      exact fk_Y_serialise_92 hy rfl rv1 rfl rv2 rfl rv3 hR24
noncomputable def NL_Y_serialise_19 (v1 : Int) (v2 : Int) (v3 : Int) (m : YS) : Option (YS) :=
  it (fun s : Int × Int × YS => nb_Y_serialise_19 v1 s.1 s.2.1 s.2.2) (v2, v3, m)
theorem fL_Y_serialise_19 {w y : Prop} {g : g_S} {n : NS} {m : YS} (hy : y) {xv1 : Int32} {v1 : Int} (ev1 : xv1 = Int32.ofInt v1) (rv1 : inR v1) {xv2 : Int32} {v2 : Int} (ev2 : xv2 = Int32.ofInt v2) (rv2 : inR v2) {xv3 : Int32} {v3 : Int} (ev3 : xv3 = Int32.ofInt v3) (rv3 : inR v3) (hR : RC w y g n m) : Rf (fun a b => RC w y a n b) (L_Y_serialise_19 1838 xv1 xv2 xv3 g) (NL_Y_serialise_19 v1 v2 v3 m) := by
  subst ev1
  subst ev2
  subst ev3
  unfold L_Y_serialise_19 NL_Y_serialise_19
  refine rf_it (I := (fun a b => RI a.1 b.1 ∧ RI a.2.1 b.2.1 ∧ RC w y a.2.2 n b.2.2)) (fun s t h => ?_) ⟨⟨rfl, rv2⟩, ⟨rfl, rv3⟩, hR⟩
  exact fb_Y_serialise_19 hy rfl rv1 h.1.1 h.1.2 h.2.1.1 h.2.1.2 h.2.2
theorem NL_Y_serialise_19_eq (v1 : Int) (v2 : Int) (v3 : Int) (m : YS) : NL_Y_serialise_19 v1 v2 v3 m = itc (nb_Y_serialise_19 v1 v2 v3 m) (fun s => NL_Y_serialise_19 v1 s.1 s.2.1 s.2.2) := it_eq2 (fun s : Int × Int × YS => nb_Y_serialise_19 v1 s.1 s.2.1 s.2.2) (v2, v3, m)
noncomputable def N_Y_serialise (v1 : Int) (m : YS) : Option (Int × YS) :=
  (N_Y_there v1 m).bind fun z2 =>
  if z2 = 0 then
    some ((-1), m)
  else
    st (yw m 5 0 0) fun m8 =>
    (NL_Y_serialise_19 v1 v1 1 m8).bind <| fun m11 =>
    some ((m11 5 0), m11)
theorem f_Y_serialise {w y : Prop} {g : g_S} {n : NS} {m : YS} (hy : y) {xv1 : Int32} {v1 : Int} (ev1 : xv1 = Int32.ofInt v1) (rv1 : inR v1) (hR : RC w y g n m) : Rf (fun a b => RI a.1 b.1 ∧ RC w y a.2 n b.2) (M_Y_serialise 1838 xv1 g) (N_Y_serialise v1 m) := by
  subst ev1
  unfold M_Y_serialise N_Y_serialise
  refine v_c (y_gt hR hy) ?_
  refine rf_bind (f_Y_there hy rfl rv1 hR) (fun a4 z2 h => ?_)
  obtain ⟨rfl, r3⟩ := h
  refine rf_eq rfl (e_n 0) (inZ.r r3) (show inR 0 by decide) ?_ ?_
  · exact rf_ok (by exact ⟨⟨(e_m 1), (show inR (-1) by decide)⟩, hR⟩)
  · refine y_pI hR hy yk5 ⟨yt5, yz5⟩ (e_n 0) (show inR 0 by decide) (fun g10 m8 hR9 => ?_)
    refine rf_bind (fL_Y_serialise_19 hy rfl rv1 rfl rv1 (e_n 1) (show inR 1 by decide) hR9) (fun a12 m11 h => ?_)
    have hR13 : RC w y a12 n m11 := h
    refine y_I hR13 hy yk5 yt5 (fun h14 => ?_)
    exact rf_ok (by exact ⟨⟨rfl, h14⟩, hR13⟩)
noncomputable def nb_Y_node_74 (v3 : Int) (v4 : Int) (m : YS) : Option ((Int × Int) ⊕ (Int)) :=
  if v4 = (-1) then
    some (.inr v3)
  else
    ck (v3 + 1) <|
    ix v4 120 <|
    some (.inl (v3 + 1, (m 52 v4)))
theorem fb_Y_node_74 {w y : Prop} {g : g_S} {n : NS} {m : YS} (hy : y) {xv3 : Int32} {v3 : Int} (ev3 : xv3 = Int32.ofInt v3) (rv3 : inR v3) {xv4 : Int32} {v4 : Int} (ev4 : xv4 = Int32.ofInt v4) (rv4 : inR v4) (hR : RC w y g n m) : Rf (RS (fun a b => RI a.1 b.1 ∧ RI a.2 b.2) (fun a b => RI a b)) (b_Y_node_74 1838 xv3 xv4 g) (nb_Y_node_74 v3 v4 m) := by
  subst ev3
  subst ev4
  unfold b_Y_node_74 nb_Y_node_74
  refine rf_eq rfl (e_m 1) rv4 (show inR (-1) by decide) ?_ ?_
  · exact rf_ok (by exact ⟨rfl, rv3⟩)
  · refine rf_ck (fun h2 => ?_)
    refine y_Q hR hy ya52.1 (by decide) ?_
    refine y_aI hR hy ya52 yl52 rfl rv4 (fun h4 h5 => ?_)
    exact rf_ok (by exact ⟨⟨(e_add rfl (e_n 1)), h2⟩, ⟨rfl, h5⟩⟩)
noncomputable def NL_Y_node_74 (v3 : Int) (v4 : Int) (m : YS) : Option (Int) :=
  it (fun s : Int × Int => nb_Y_node_74 s.1 s.2 m) (v3, v4)
theorem fL_Y_node_74 {w y : Prop} {g : g_S} {n : NS} {m : YS} (hy : y) {xv3 : Int32} {v3 : Int} (ev3 : xv3 = Int32.ofInt v3) (rv3 : inR v3) {xv4 : Int32} {v4 : Int} (ev4 : xv4 = Int32.ofInt v4) (rv4 : inR v4) (hR : RC w y g n m) : Rf (fun a b => RI a b) (L_Y_node_74 1838 xv3 xv4 g) (NL_Y_node_74 v3 v4 m) := by
  subst ev3
  subst ev4
  unfold L_Y_node_74 NL_Y_node_74
  refine rf_it (I := (fun a b => RI a.1 b.1 ∧ RI a.2 b.2)) (fun s t h => ?_) ⟨⟨rfl, rv3⟩, ⟨rfl, rv4⟩⟩
  exact fb_Y_node_74 hy h.1.1 h.1.2 h.2.1 h.2.2 hR
theorem NL_Y_node_74_eq (v3 : Int) (v4 : Int) (m : YS) : NL_Y_node_74 v3 v4 m = itc (nb_Y_node_74 v3 v4 m) (fun s => NL_Y_node_74 s.1 s.2 m) := it_eq2 (fun s : Int × Int => nb_Y_node_74 s.1 s.2 m) (v3, v4)
noncomputable def nb_Y_node_105 (v3 : Int) (v4 : Int) (m : YS) : Option ((Int × Int) ⊕ (Int)) :=
  if v4 = (-1) then
    some (.inr v3)
  else
    ck (v3 + 1) <|
    ix v4 120 <|
    some (.inl (v3 + 1, (m 53 v4)))
theorem fb_Y_node_105 {w y : Prop} {g : g_S} {n : NS} {m : YS} (hy : y) {xv3 : Int32} {v3 : Int} (ev3 : xv3 = Int32.ofInt v3) (rv3 : inR v3) {xv4 : Int32} {v4 : Int} (ev4 : xv4 = Int32.ofInt v4) (rv4 : inR v4) (hR : RC w y g n m) : Rf (RS (fun a b => RI a.1 b.1 ∧ RI a.2 b.2) (fun a b => RI a b)) (b_Y_node_105 1838 xv3 xv4 g) (nb_Y_node_105 v3 v4 m) := by
  subst ev3
  subst ev4
  unfold b_Y_node_105 nb_Y_node_105
  refine rf_eq rfl (e_m 1) rv4 (show inR (-1) by decide) ?_ ?_
  · exact rf_ok (by exact ⟨rfl, rv3⟩)
  · refine rf_ck (fun h2 => ?_)
    refine y_Q hR hy ya53.1 (by decide) ?_
    refine y_aI hR hy ya53 yl53 rfl rv4 (fun h4 h5 => ?_)
    exact rf_ok (by exact ⟨⟨(e_add rfl (e_n 1)), h2⟩, ⟨rfl, h5⟩⟩)
noncomputable def NL_Y_node_105 (v3 : Int) (v4 : Int) (m : YS) : Option (Int) :=
  it (fun s : Int × Int => nb_Y_node_105 s.1 s.2 m) (v3, v4)
theorem fL_Y_node_105 {w y : Prop} {g : g_S} {n : NS} {m : YS} (hy : y) {xv3 : Int32} {v3 : Int} (ev3 : xv3 = Int32.ofInt v3) (rv3 : inR v3) {xv4 : Int32} {v4 : Int} (ev4 : xv4 = Int32.ofInt v4) (rv4 : inR v4) (hR : RC w y g n m) : Rf (fun a b => RI a b) (L_Y_node_105 1838 xv3 xv4 g) (NL_Y_node_105 v3 v4 m) := by
  subst ev3
  subst ev4
  unfold L_Y_node_105 NL_Y_node_105
  refine rf_it (I := (fun a b => RI a.1 b.1 ∧ RI a.2 b.2)) (fun s t h => ?_) ⟨⟨rfl, rv3⟩, ⟨rfl, rv4⟩⟩
  exact fb_Y_node_105 hy h.1.1 h.1.2 h.2.1 h.2.2 hR
theorem NL_Y_node_105_eq (v3 : Int) (v4 : Int) (m : YS) : NL_Y_node_105 v3 v4 m = itc (nb_Y_node_105 v3 v4 m) (fun s => NL_Y_node_105 s.1 s.2 m) := it_eq2 (fun s : Int × Int => nb_Y_node_105 s.1 s.2 m) (v3, v4)
noncomputable def N_Y_node (v1 : Int) (v2 : Int) (m : YS) : Option (Int) :=
  (N_Y_there v1 m).bind fun z2 =>
  if z2 = 0 then
    some (-1)
  else
    if v2 = 0 then
      ix v1 120 <|
      some (m 46 v1)
    else if v2 = 1 then
      ix v1 120 <|
      some (m 49 v1)
    else if v2 = 2 then
      ix v1 120 <|
      (NL_Y_node_74 0 (m 50 v1) m).bind <| fun z19 =>
      some z19
    else if v2 = 3 then
      ix v1 120 <|
      (NL_Y_node_105 0 (m 53 v1) m).bind <| fun z26 =>
      some z26
    else if v2 = 4 then
      ix v1 120 <|
      some (m 56 v1)
    else if v2 = 5 then
      ix v1 120 <|
      if (m 46 v1) = 17 then
        ix v1 120 <|
        some (m 62 v1)
      else
        some 0
    else
      some (-1)
theorem f_Y_node {w y : Prop} {g : g_S} {n : NS} {m : YS} (hy : y) {xv1 : Int32} {v1 : Int} (ev1 : xv1 = Int32.ofInt v1) (rv1 : inR v1) {xv2 : Int32} {v2 : Int} (ev2 : xv2 = Int32.ofInt v2) (rv2 : inR v2) (hR : RC w y g n m) : Rf (fun a b => RI a b) (M_Y_node 1838 xv1 xv2 g) (N_Y_node v1 v2 m) := by
  subst ev1
  subst ev2
  unfold M_Y_node N_Y_node
  refine v_c (y_gt hR hy) ?_
  refine rf_bind (f_Y_there hy rfl rv1 hR) (fun a4 z2 h => ?_)
  obtain ⟨rfl, r3⟩ := h
  refine rf_eq rfl (e_n 0) (inZ.r r3) (show inR 0 by decide) ?_ ?_
  · exact rf_ok (by exact ⟨(e_m 1), (show inR (-1) by decide)⟩)
  · refine rf_eq rfl (e_n 0) rv2 (show inR 0 by decide) ?_ ?_
    · refine y_Q hR hy ya46.1 (by decide) ?_
      refine y_aI hR hy ya46 yl46 rfl rv1 (fun h9 h10 => ?_)
      exact rf_ok (by exact ⟨rfl, h10⟩)
    refine rf_eq rfl (e_n 1) rv2 (show inR 1 by decide) ?_ ?_
    · refine y_Q hR hy ya49.1 (by decide) ?_
      refine y_aI hR hy ya49 yl49 rfl rv1 (fun h13 h14 => ?_)
      exact rf_ok (by exact ⟨rfl, h14⟩)
    refine rf_eq rfl (e_n 2) rv2 (show inR 2 by decide) ?_ ?_
    · refine y_Q hR hy ya50.1 (by decide) ?_
      refine y_aI hR hy ya50 yl50 rfl rv1 (fun h17 h18 => ?_)
      refine rf_bind (fL_Y_node_74 hy (e_n 0) (show inR 0 by decide) rfl h18 hR) (fun a20 z19 h => ?_)
      obtain ⟨rfl, r21⟩ := (show RI a20 z19 from h)
      exact rf_ok (by exact ⟨rfl, r21⟩)
    refine rf_eq rfl (e_n 3) rv2 (show inR 3 by decide) ?_ ?_
    · refine y_Q hR hy ya53.1 (by decide) ?_
      refine y_aI hR hy ya53 yl53 rfl rv1 (fun h24 h25 => ?_)
      refine rf_bind (fL_Y_node_105 hy (e_n 0) (show inR 0 by decide) rfl h25 hR) (fun a27 z26 h => ?_)
      obtain ⟨rfl, r28⟩ := (show RI a27 z26 from h)
      exact rf_ok (by exact ⟨rfl, r28⟩)
    refine rf_eq rfl (e_n 4) rv2 (show inR 4 by decide) ?_ ?_
    · refine y_Q hR hy ya56.1 (by decide) ?_
      refine y_aI hR hy ya56 yl56 rfl rv1 (fun h31 h32 => ?_)
      exact rf_ok (by exact ⟨rfl, h32⟩)
    refine rf_eq rfl (e_n 5) rv2 (show inR 5 by decide) ?_ ?_
    · refine y_Q hR hy ya46.1 (by decide) ?_
      refine y_aI hR hy ya46 yl46 rfl rv1 (fun h35 h36 => ?_)
      refine rf_eq rfl (e_n 17) h36 (show inR 17 by decide) ?_ ?_
      · refine y_Q hR hy ya62.1 (by decide) ?_
        refine y_aI hR hy ya62 yl62 rfl rv1 (fun h39 h40 => ?_)
        exact rf_ok (by exact ⟨rfl, h40⟩)
      · exact rf_ok (by exact ⟨(e_n 0), (show inR 0 by decide)⟩)
    exact rf_ok (by exact ⟨(e_m 1), (show inR (-1) by decide)⟩)
noncomputable def nb_Y_kid_24 (v2 : Int) (v3 : Int) (v4 : Int) (m : YS) : Option ((Int × Int) ⊕ (Int)) :=
  if v4 < v2 then
    if v3 = (-1) then
      some (.inr v3)
    else
      ix v3 120 <|
      ck (v4 + 1) <|
      some (.inl ((m 52 v3), v4 + 1))
  else
    some (.inr v3)
theorem fb_Y_kid_24 {w y : Prop} {g : g_S} {n : NS} {m : YS} (hy : y) {xv2 : Int32} {v2 : Int} (ev2 : xv2 = Int32.ofInt v2) (rv2 : inR v2) {xv3 : Int32} {v3 : Int} (ev3 : xv3 = Int32.ofInt v3) (rv3 : inR v3) {xv4 : Int32} {v4 : Int} (ev4 : xv4 = Int32.ofInt v4) (rv4 : inR v4) (hR : RC w y g n m) : Rf (RS (fun a b => RI a.1 b.1 ∧ RI a.2 b.2) (fun a b => RI a b)) (b_Y_kid_24 1838 xv2 xv3 xv4 g) (nb_Y_kid_24 v2 v3 v4 m) := by
  subst ev2
  subst ev3
  subst ev4
  unfold b_Y_kid_24 nb_Y_kid_24
  refine rf_lt rfl rfl rv4 rv2 ?_ ?_
  · refine rf_eq rfl (e_m 1) rv3 (show inR (-1) by decide) ?_ ?_
    · exact rf_ok (by exact ⟨rfl, rv3⟩)
    · refine y_Q hR hy ya52.1 (by decide) ?_
      refine y_aI hR hy ya52 yl52 rfl rv3 (fun h4 h5 => ?_)
      refine rf_ck (fun h6 => ?_)
      exact rf_ok (by exact ⟨⟨rfl, h5⟩, ⟨(e_add rfl (e_n 1)), h6⟩⟩)
  · exact rf_ok (by exact ⟨rfl, rv3⟩)
noncomputable def NL_Y_kid_24 (v2 : Int) (v3 : Int) (v4 : Int) (m : YS) : Option (Int) :=
  it (fun s : Int × Int => nb_Y_kid_24 v2 s.1 s.2 m) (v3, v4)
theorem fL_Y_kid_24 {w y : Prop} {g : g_S} {n : NS} {m : YS} (hy : y) {xv2 : Int32} {v2 : Int} (ev2 : xv2 = Int32.ofInt v2) (rv2 : inR v2) {xv3 : Int32} {v3 : Int} (ev3 : xv3 = Int32.ofInt v3) (rv3 : inR v3) {xv4 : Int32} {v4 : Int} (ev4 : xv4 = Int32.ofInt v4) (rv4 : inR v4) (hR : RC w y g n m) : Rf (fun a b => RI a b) (L_Y_kid_24 1838 xv2 xv3 xv4 g) (NL_Y_kid_24 v2 v3 v4 m) := by
  subst ev2
  subst ev3
  subst ev4
  unfold L_Y_kid_24 NL_Y_kid_24
  refine rf_it (I := (fun a b => RI a.1 b.1 ∧ RI a.2 b.2)) (fun s t h => ?_) ⟨⟨rfl, rv3⟩, ⟨rfl, rv4⟩⟩
  exact fb_Y_kid_24 hy rfl rv2 h.1.1 h.1.2 h.2.1 h.2.2 hR
theorem NL_Y_kid_24_eq (v2 : Int) (v3 : Int) (v4 : Int) (m : YS) : NL_Y_kid_24 v2 v3 v4 m = itc (nb_Y_kid_24 v2 v3 v4 m) (fun s => NL_Y_kid_24 v2 s.1 s.2 m) := it_eq2 (fun s : Int × Int => nb_Y_kid_24 v2 s.1 s.2 m) (v3, v4)
noncomputable def N_Y_kid (v1 : Int) (v2 : Int) (m : YS) : Option (Int) :=
  (N_Y_there v1 m).bind fun z2 =>
  if z2 = 0 then
    some (-1)
  else
    if v2 < 0 then
      some (-1)
    else
      ix v1 120 <|
      (NL_Y_kid_24 v2 (m 50 v1) 0 m).bind <| fun z12 =>
      some z12
theorem f_Y_kid {w y : Prop} {g : g_S} {n : NS} {m : YS} (hy : y) {xv1 : Int32} {v1 : Int} (ev1 : xv1 = Int32.ofInt v1) (rv1 : inR v1) {xv2 : Int32} {v2 : Int} (ev2 : xv2 = Int32.ofInt v2) (rv2 : inR v2) (hR : RC w y g n m) : Rf (fun a b => RI a b) (M_Y_kid 1838 xv1 xv2 g) (N_Y_kid v1 v2 m) := by
  subst ev1
  subst ev2
  unfold M_Y_kid N_Y_kid
  refine v_c (y_gt hR hy) ?_
  refine rf_bind (f_Y_there hy rfl rv1 hR) (fun a4 z2 h => ?_)
  obtain ⟨rfl, r3⟩ := h
  refine rf_eq rfl (e_n 0) (inZ.r r3) (show inR 0 by decide) ?_ ?_
  · exact rf_ok (by exact ⟨(e_m 1), (show inR (-1) by decide)⟩)
  · refine rf_lt rfl (e_n 0) rv2 (show inR 0 by decide) ?_ ?_
    · exact rf_ok (by exact ⟨(e_m 1), (show inR (-1) by decide)⟩)
    · refine y_Q hR hy ya50.1 (by decide) ?_
      refine y_aI hR hy ya50 yl50 rfl rv1 (fun h10 h11 => ?_)
      refine rf_bind (fL_Y_kid_24 hy rfl rv2 rfl h11 (e_n 0) (show inR 0 by decide) hR) (fun a13 z12 h => ?_)
      obtain ⟨rfl, r14⟩ := (show RI a13 z12 from h)
      exact rf_ok (by exact ⟨rfl, r14⟩)
noncomputable def nk_Y_name_66 (m : YS) : Option (Int × YS) :=
  some ((m 5 0), m)
theorem fk_Y_name_66 {w y : Prop} {g : g_S} {n : NS} {m : YS} (hy : y) (hR : RC w y g n m) : Rf (fun a b => RI a.1 b.1 ∧ RC w y a.2 n b.2) (k_Y_name_66 1838 g) (nk_Y_name_66 m) := by
  unfold k_Y_name_66 nk_Y_name_66
  refine y_I hR hy yk5 yt5 (fun h1 => ?_)
  exact rf_ok (by exact ⟨⟨rfl, h1⟩, hR⟩)
noncomputable def N_Y_name (v1 : Int) (m : YS) : Option (Int × YS) :=
  (N_Y_there v1 m).bind fun z2 =>
  if z2 = 0 then
    some ((-1), m)
  else
    st (yw m 5 0 0) fun m8 =>
    ix v1 120 <|
    if (m8 46 v1) = 17 then
      ck (400 * v1) <|
      ix v1 120 <|
      (N_Y_sayAll 61 (400 * v1) (m8 62 v1) m8).bind fun m21 =>
      nk_Y_name_66 m21
    else
      ck (8 * v1) <|
      ix v1 120 <|
      (N_Y_sayAll 47 (8 * v1) (m8 48 v1) m8).bind fun m30 =>
      nk_Y_name_66 m30
theorem f_Y_name {w y : Prop} {g : g_S} {n : NS} {m : YS} (hy : y) {xv1 : Int32} {v1 : Int} (ev1 : xv1 = Int32.ofInt v1) (rv1 : inR v1) (hR : RC w y g n m) : Rf (fun a b => RI a.1 b.1 ∧ RC w y a.2 n b.2) (M_Y_name 1838 xv1 g) (N_Y_name v1 m) := by
  subst ev1
  unfold M_Y_name N_Y_name
  refine v_c (y_gt hR hy) ?_
  refine rf_bind (f_Y_there hy rfl rv1 hR) (fun a4 z2 h => ?_)
  obtain ⟨rfl, r3⟩ := h
  refine rf_eq rfl (e_n 0) (inZ.r r3) (show inR 0 by decide) ?_ ?_
  · exact rf_ok (by exact ⟨⟨(e_m 1), (show inR (-1) by decide)⟩, hR⟩)
  · refine y_pI hR hy yk5 ⟨yt5, yz5⟩ (e_n 0) (show inR 0 by decide) (fun g10 m8 hR9 => ?_)
    refine y_Q hR9 hy ya46.1 (by decide) ?_
    refine y_aI hR9 hy ya46 yl46 rfl rv1 (fun h12 h13 => ?_)
    refine rf_eq rfl (e_n 17) h13 (show inR 17 by decide) ?_ ?_
    · refine y_Q hR9 hy ya61.1 (by decide) ?_
      refine rf_ck (fun h16 => ?_)
      refine y_Q hR9 hy ya62.1 (by decide) ?_
      refine y_aI hR9 hy ya62 yl62 rfl rv1 (fun h18 h19 => ?_)
      refine v_c (y_gt hR9 hy) ?_
      refine rf_bind (f_Y_sayAll hy rfl ya61 (e_mul (e_n 400) rfl) h16 rfl h19 hR9) (fun g23 m21 hR22 => ?_)
      exact fk_Y_name_66 hy hR22
    · refine y_Q hR9 hy ya47.1 (by decide) ?_
      refine rf_ck (fun h25 => ?_)
      refine y_Q hR9 hy ya48.1 (by decide) ?_
      refine y_aI hR9 hy ya48 yl48 rfl rv1 (fun h27 h28 => ?_)
      refine v_c (y_gt hR9 hy) ?_
      refine rf_bind (f_Y_sayAll hy rfl ya47 (e_mul (e_n 8) rfl) h25 rfl h28 hR9) (fun g32 m30 hR31 => ?_)
      exact fk_Y_name_66 hy hR31
noncomputable def nb_Y_fresh_20 (v1 : Int) (v2 : Int) (v3 : Int) (m : YS) : Option ((Int) ⊕ (Int)) :=
  if v3 < 120 then
    ix v3 120 <|
    if (m 45 v3) = 0 then
      some (.inr v3)
    else
      ck (v3 + 1) <|
      some (.inl (v3 + 1))
  else
    some (.inr v3)
theorem fb_Y_fresh_20 {w y : Prop} {g : g_S} {n : NS} {m : YS} (hy : y) {xv1 : Int32} {v1 : Int} (ev1 : xv1 = Int32.ofInt v1) (rv1 : inR v1) {xv2 : Int32} {v2 : Int} (ev2 : xv2 = Int32.ofInt v2) (rv2 : inR v2) {xv3 : Int32} {v3 : Int} (ev3 : xv3 = Int32.ofInt v3) (rv3 : inR v3) (hR : RC w y g n m) : Rf (RS (fun a b => RI a b) (fun a b => RI a b)) (b_Y_fresh_20 1838 xv1 xv2 xv3 g) (nb_Y_fresh_20 v1 v2 v3 m) := by
  subst ev1
  subst ev2
  subst ev3
  unfold b_Y_fresh_20 nb_Y_fresh_20
  refine rf_lt rfl (e_n 120) rv3 (show inR 120 by decide) ?_ ?_
  · refine y_Q hR hy ya45.1 (by decide) ?_
    refine y_aZ hR hy ya45 yl45 rfl rv3 (fun h3 h4 => ?_)
    refine rf_eq rfl (e_n 0) (inZ.r h4) (show inR 0 by decide) ?_ ?_
    · exact rf_ok (by exact ⟨rfl, rv3⟩)
    · refine rf_ck (fun h6 => ?_)
      exact rf_ok (by exact ⟨(e_add rfl (e_n 1)), h6⟩)
  · exact rf_ok (by exact ⟨rfl, rv3⟩)
noncomputable def NL_Y_fresh_20 (v1 : Int) (v2 : Int) (v3 : Int) (m : YS) : Option (Int) :=
  it (fun s : Int => nb_Y_fresh_20 v1 v2 s m) (v3)
theorem fL_Y_fresh_20 {w y : Prop} {g : g_S} {n : NS} {m : YS} (hy : y) {xv1 : Int32} {v1 : Int} (ev1 : xv1 = Int32.ofInt v1) (rv1 : inR v1) {xv2 : Int32} {v2 : Int} (ev2 : xv2 = Int32.ofInt v2) (rv2 : inR v2) {xv3 : Int32} {v3 : Int} (ev3 : xv3 = Int32.ofInt v3) (rv3 : inR v3) (hR : RC w y g n m) : Rf (fun a b => RI a b) (L_Y_fresh_20 1838 xv1 xv2 xv3 g) (NL_Y_fresh_20 v1 v2 v3 m) := by
  subst ev1
  subst ev2
  subst ev3
  unfold L_Y_fresh_20 NL_Y_fresh_20
  refine rf_it (I := (fun a b => RI a b)) (fun s t h => ?_) ⟨rfl, rv3⟩
  exact fb_Y_fresh_20 hy rfl rv1 rfl rv2 h.1 h.2 hR
theorem NL_Y_fresh_20_eq (v1 : Int) (v2 : Int) (v3 : Int) (m : YS) : NL_Y_fresh_20 v1 v2 v3 m = itc (nb_Y_fresh_20 v1 v2 v3 m) (fun s => NL_Y_fresh_20 v1 v2 s m) := it_eq2 (fun s : Int => nb_Y_fresh_20 v1 v2 s m) (v3)
noncomputable def nk_Y_fresh_225 (v1 : Int) (v3 : Int) (m : YS) : Option (Int × YS) :=
  ix v1 120 <|
  st (yw m 51 v1 v3) fun m3 =>
  some (v3, m3)
theorem fk_Y_fresh_225 {w y : Prop} {g : g_S} {n : NS} {m : YS} (hy : y) {xv1 : Int32} {v1 : Int} (ev1 : xv1 = Int32.ofInt v1) (rv1 : inR v1) {xv3 : Int32} {v3 : Int} (ev3 : xv3 = Int32.ofInt v3) (rv3 : inR v3) (hR : RC w y g n m) : Rf (fun a b => RI a.1 b.1 ∧ RC w y a.2 n b.2) (k_Y_fresh_225 1838 xv1 xv3 g) (nk_Y_fresh_225 v1 v3 m) := by
  subst ev1
  subst ev3
  unfold k_Y_fresh_225 nk_Y_fresh_225
  refine y_Q hR hy ya51.1 (by decide) ?_
  refine y_sI hR hy ya51 yl51 rfl rv1 rfl rv3 (fun g5 m3 hR4 => ?_)
  exact rf_ok (by exact ⟨⟨rfl, rv3⟩, hR4⟩)
noncomputable def nk_Y_fresh_41 (v1 : Int) (v2 : Int) (v3 : Int) (m : YS) : Option (Int × YS) :=
  if v3 = 120 then
    some ((-1), m)
  else
    if 20 < v2 then
      some ((-1), m)
    else
      ix v3 120 <|
      st (yw m 45 v3 1) fun m7 =>
      ck ((m7 68 0) + 1) <|
      st (yw m7 68 0 ((m7 68 0) + 1)) fun m13 =>
      ck ((m13 69 0) + 1) <|
      st (yw m13 69 0 ((m13 69 0) + 1)) fun m19 =>
      ix v3 120 <|
      st (yw m19 55 v3 (m19 69 0)) fun m25 =>
      ix v3 120 <|
      st (yw m25 54 v3 v2) fun m30 =>
      ix v3 120 <|
      st (yw m30 49 v3 v1) fun m35 =>
      ix v3 120 <|
      st (yw m35 50 v3 (-1)) fun m40 =>
      ix v3 120 <|
      st (yw m40 51 v3 (-1)) fun m45 =>
      ix v3 120 <|
      st (yw m45 52 v3 (-1)) fun m50 =>
      ix v3 120 <|
      st (yw m50 53 v3 (-1)) fun m55 =>
      ix v3 120 <|
      st (yw m55 56 v3 0) fun m60 =>
      ix v3 120 <|
      st (yw m60 62 v3 0) fun m65 =>
      ix v3 120 <|
      st (yw m65 63 v3 0) fun m70 =>
      ix v3 120 <|
      st (yw m70 48 v3 0) fun m75 =>
      ix v3 120 <|
      st (yw m75 65 v3 0) fun m80 =>
      ix v3 120 <|
      st (yw m80 66 v3 0) fun m85 =>
      if v1 = (-1) then
        some (v3, m85)
      else
        ix v1 120 <|
        ix v3 120 <|
        st (yw m85 53 v3 (m85 51 v1)) fun m95 =>
        ix v1 120 <|
        if (m95 51 v1) = (-1) then
          ix v1 120 <|
          st (yw m95 50 v1 v3) fun m104 =>
          nk_Y_fresh_225 v1 v3 m104
        else
          ix v1 120 <|
          ix (m95 51 v1) 120 <|
          st (yw m95 52 (m95 51 v1) v3) fun m112 =>
          nk_Y_fresh_225 v1 v3 m112
theorem fk_Y_fresh_41 {w y : Prop} {g : g_S} {n : NS} {m : YS} (hy : y) {xv1 : Int32} {v1 : Int} (ev1 : xv1 = Int32.ofInt v1) (rv1 : inR v1) {xv2 : Int32} {v2 : Int} (ev2 : xv2 = Int32.ofInt v2) (rv2 : inR v2) {xv3 : Int32} {v3 : Int} (ev3 : xv3 = Int32.ofInt v3) (rv3 : inR v3) (hR : RC w y g n m) : Rf (fun a b => RI a.1 b.1 ∧ RC w y a.2 n b.2) (k_Y_fresh_41 1838 xv1 xv2 xv3 g) (nk_Y_fresh_41 v1 v2 v3 m) := by
  subst ev1
  subst ev2
  subst ev3
  unfold k_Y_fresh_41 nk_Y_fresh_41
  refine rf_eq rfl (e_n 120) rv3 (show inR 120 by decide) ?_ ?_
  · exact rf_ok (by exact ⟨⟨(e_m 1), (show inR (-1) by decide)⟩, hR⟩)
  · refine rf_lt (e_n 20) rfl (show inR 20 by decide) rv2 ?_ ?_
    · exact rf_ok (by exact ⟨⟨(e_m 1), (show inR (-1) by decide)⟩, hR⟩)
    · refine y_Q hR hy ya45.1 (by decide) ?_
      refine y_sZ hR hy ya45 yl45 rfl rv3 (e_n 1) (.inr rfl) (fun g9 m7 hR8 => ?_)
      refine y_I hR8 hy yk68 yt68 (fun h10 => ?_)
      refine rf_ck (fun h11 => ?_)
      refine y_pI hR8 hy yk68 ⟨yt68, yz68⟩ (e_add rfl (e_n 1)) h11 (fun g15 m13 hR14 => ?_)
      refine y_I hR14 hy yk69 yt69 (fun h16 => ?_)
      refine rf_ck (fun h17 => ?_)
      refine y_pI hR14 hy yk69 ⟨yt69, yz69⟩ (e_add rfl (e_n 1)) h17 (fun g21 m19 hR20 => ?_)
      refine y_Q hR20 hy ya55.1 (by decide) ?_
      refine y_I hR20 hy yk69 yt69 (fun h23 => ?_)
      refine y_sI hR20 hy ya55 yl55 rfl rv3 rfl h23 (fun g27 m25 hR26 => ?_)
      refine y_Q hR26 hy ya54.1 (by decide) ?_
      refine y_sI hR26 hy ya54 yl54 rfl rv3 rfl rv2 (fun g32 m30 hR31 => ?_)
      refine y_Q hR31 hy ya49.1 (by decide) ?_
      refine y_sI hR31 hy ya49 yl49 rfl rv3 rfl rv1 (fun g37 m35 hR36 => ?_)
      refine y_Q hR36 hy ya50.1 (by decide) ?_
      refine y_sI hR36 hy ya50 yl50 rfl rv3 (e_m 1) (show inR (-1) by decide) (fun g42 m40 hR41 => ?_)
      refine y_Q hR41 hy ya51.1 (by decide) ?_
      refine y_sI hR41 hy ya51 yl51 rfl rv3 (e_m 1) (show inR (-1) by decide) (fun g47 m45 hR46 => ?_)
      refine y_Q hR46 hy ya52.1 (by decide) ?_
      refine y_sI hR46 hy ya52 yl52 rfl rv3 (e_m 1) (show inR (-1) by decide) (fun g52 m50 hR51 => ?_)
      refine y_Q hR51 hy ya53.1 (by decide) ?_
      refine y_sI hR51 hy ya53 yl53 rfl rv3 (e_m 1) (show inR (-1) by decide) (fun g57 m55 hR56 => ?_)
      refine y_Q hR56 hy ya56.1 (by decide) ?_
      refine y_sI hR56 hy ya56 yl56 rfl rv3 (e_n 0) (show inR 0 by decide) (fun g62 m60 hR61 => ?_)
      refine y_Q hR61 hy ya62.1 (by decide) ?_
      refine y_sI hR61 hy ya62 yl62 rfl rv3 (e_n 0) (show inR 0 by decide) (fun g67 m65 hR66 => ?_)
      refine y_Q hR66 hy ya63.1 (by decide) ?_
      refine y_sZ hR66 hy ya63 yl63 rfl rv3 (e_n 0) (.inl rfl) (fun g72 m70 hR71 => ?_)
      refine y_Q hR71 hy ya48.1 (by decide) ?_
      refine y_sI hR71 hy ya48 yl48 rfl rv3 (e_n 0) (show inR 0 by decide) (fun g77 m75 hR76 => ?_)
      refine y_Q hR76 hy ya65.1 (by decide) ?_
      refine y_sI hR76 hy ya65 yl65 rfl rv3 (e_n 0) (show inR 0 by decide) (fun g82 m80 hR81 => ?_)
      refine y_Q hR81 hy ya66.1 (by decide) ?_
      refine y_sZ hR81 hy ya66 yl66 rfl rv3 (e_n 0) (.inl rfl) (fun g87 m85 hR86 => ?_)
      refine rf_eq rfl (e_m 1) rv1 (show inR (-1) by decide) ?_ ?_
      · exact rf_ok (by exact ⟨⟨rfl, rv3⟩, hR86⟩)
      · refine y_Q hR86 hy ya53.1 (by decide) ?_
        refine y_Q hR86 hy ya51.1 (by decide) ?_
        refine y_aI hR86 hy ya51 yl51 rfl rv1 (fun h92 h93 => ?_)
        refine y_sI hR86 hy ya53 yl53 rfl rv3 rfl h93 (fun g97 m95 hR96 => ?_)
        refine y_Q hR96 hy ya51.1 (by decide) ?_
        refine y_aI hR96 hy ya51 yl51 rfl rv1 (fun h99 h100 => ?_)
        refine rf_eq rfl (e_m 1) h100 (show inR (-1) by decide) ?_ ?_
        · refine y_Q hR96 hy ya50.1 (by decide) ?_
          refine y_sI hR96 hy ya50 yl50 rfl rv1 rfl rv3 (fun g106 m104 hR105 => ?_)
          exact fk_Y_fresh_225 hy rfl rv1 rfl rv3 hR105
        · refine y_Q hR96 hy ya52.1 (by decide) ?_
          refine y_Q hR96 hy ya51.1 (by decide) ?_
          refine y_aI hR96 hy ya51 yl51 rfl rv1 (fun h109 h110 => ?_)
          refine y_sI hR96 hy ya52 yl52 rfl h110 rfl rv3 (fun g114 m112 hR113 => ?_)
          exact fk_Y_fresh_225 hy rfl rv1 rfl rv3 hR113
noncomputable def nk_Y_fresh_17 (v1 : Int) (w0 : Int) (m : YS) : Option (Int × YS) :=
  (NL_Y_fresh_20 v1 w0 0 m).bind <| fun z1 =>
  nk_Y_fresh_41 v1 w0 z1 m
theorem fk_Y_fresh_17 {w y : Prop} {g : g_S} {n : NS} {m : YS} (hy : y) {xv1 : Int32} {v1 : Int} (ev1 : xv1 = Int32.ofInt v1) (rv1 : inR v1) {xw0 : Int32} {w0 : Int} (ew0 : xw0 = Int32.ofInt w0) (rw0 : inR w0) (hR : RC w y g n m) : Rf (fun a b => RI a.1 b.1 ∧ RC w y a.2 n b.2) (k_Y_fresh_17 1838 xv1 xw0 g) (nk_Y_fresh_17 v1 w0 m) := by
  subst ev1
  subst ew0
  unfold k_Y_fresh_17 nk_Y_fresh_17
  refine rf_bind (fL_Y_fresh_20 hy rfl rv1 rfl rw0 (e_n 0) (show inR 0 by decide) hR) (fun a2 z1 h => ?_)
  obtain ⟨rfl, r3⟩ := (show RI a2 z1 from h)
  exact fk_Y_fresh_41 hy rfl rv1 rfl rw0 rfl r3 hR
noncomputable def N_Y_fresh (v1 : Int) (m : YS) : Option (Int × YS) :=
  if v1 = (-1) then
    nk_Y_fresh_17 v1 0 m
  else
    ix v1 120 <|
    ck ((m 54 v1) + 1) <|
    nk_Y_fresh_17 v1 ((m 54 v1) + 1) m
theorem f_Y_fresh {w y : Prop} {g : g_S} {n : NS} {m : YS} (hy : y) {xv1 : Int32} {v1 : Int} (ev1 : xv1 = Int32.ofInt v1) (rv1 : inR v1) (hR : RC w y g n m) : Rf (fun a b => RI a.1 b.1 ∧ RC w y a.2 n b.2) (M_Y_fresh 1838 xv1 g) (N_Y_fresh v1 m) := by
  subst ev1
  unfold M_Y_fresh N_Y_fresh
  refine rf_eq rfl (e_m 1) rv1 (show inR (-1) by decide) ?_ ?_
  · exact fk_Y_fresh_17 hy rfl rv1 (e_n 0) (show inR 0 by decide) hR
  · refine y_Q hR hy ya54.1 (by decide) ?_
    refine y_aI hR hy ya54 yl54 rfl rv1 (fun h3 h4 => ?_)
    refine rf_ck (fun h5 => ?_)
    exact fk_Y_fresh_17 hy rfl rv1 (e_add rfl (e_n 1)) h5 hR
noncomputable def nb_Y_emptyTree_2 (v1 : Int) (m : YS) : Option ((Int × YS) ⊕ (YS)) :=
  if v1 < 120 then
    ix v1 120 <|
    st (yw m 45 v1 0) fun m4 =>
    ck (v1 + 1) <|
    some (.inl (v1 + 1, m4))
  else
    some (.inr m)
theorem fb_Y_emptyTree_2 {w y : Prop} {g : g_S} {n : NS} {m : YS} (hy : y) {xv1 : Int32} {v1 : Int} (ev1 : xv1 = Int32.ofInt v1) (rv1 : inR v1) (hR : RC w y g n m) : Rf (RS (fun a b => RI a.1 b.1 ∧ RC w y a.2 n b.2) (fun a b => RC w y a n b)) (b_Y_emptyTree_2 1838 xv1 g) (nb_Y_emptyTree_2 v1 m) := by
  subst ev1
  unfold b_Y_emptyTree_2 nb_Y_emptyTree_2
  refine rf_lt rfl (e_n 120) rv1 (show inR 120 by decide) ?_ ?_
  · refine y_Q hR hy ya45.1 (by decide) ?_
    refine y_sZ hR hy ya45 yl45 rfl rv1 (e_n 0) (.inl rfl) (fun g6 m4 hR5 => ?_)
    refine rf_ck (fun h7 => ?_)
    exact rf_ok (by exact ⟨⟨(e_add rfl (e_n 1)), h7⟩, hR5⟩)
  · exact rf_ok (by exact hR)
noncomputable def NL_Y_emptyTree_2 (v1 : Int) (m : YS) : Option (YS) :=
  it (fun s : Int × YS => nb_Y_emptyTree_2 s.1 s.2) (v1, m)
theorem fL_Y_emptyTree_2 {w y : Prop} {g : g_S} {n : NS} {m : YS} (hy : y) {xv1 : Int32} {v1 : Int} (ev1 : xv1 = Int32.ofInt v1) (rv1 : inR v1) (hR : RC w y g n m) : Rf (fun a b => RC w y a n b) (L_Y_emptyTree_2 1838 xv1 g) (NL_Y_emptyTree_2 v1 m) := by
  subst ev1
  unfold L_Y_emptyTree_2 NL_Y_emptyTree_2
  refine rf_it (I := (fun a b => RI a.1 b.1 ∧ RC w y a.2 n b.2)) (fun s t h => ?_) ⟨⟨rfl, rv1⟩, hR⟩
  exact fb_Y_emptyTree_2 hy h.1.1 h.1.2 h.2
theorem NL_Y_emptyTree_2_eq (v1 : Int) (m : YS) : NL_Y_emptyTree_2 v1 m = itc (nb_Y_emptyTree_2 v1 m) (fun s => NL_Y_emptyTree_2 s.1 s.2) := it_eq2 (fun s : Int × YS => nb_Y_emptyTree_2 s.1 s.2) (v1, m)
noncomputable def N_Y_emptyTree (m : YS) : Option (YS) :=
  (NL_Y_emptyTree_2 0 m).bind <| fun m1 =>
  st (yw m1 68 0 0) fun m5 =>
  (N_Y_fresh (-1) m5).bind <| u2 fun z9 m12 =>
  ix z9 120 <|
  st (yw m12 46 z9 0) fun m17 =>
  ix 0 960 <|
  st (yw m17 47 0 100) fun m22 =>
  ix 1 960 <|
  st (yw m22 47 1 105) fun m27 =>
  ix 2 960 <|
  st (yw m27 47 2 118) fun m32 =>
  ix 0 120 <|
  st (yw m32 48 0 3) fun m37 =>
  some m37
theorem f_Y_emptyTree {w y : Prop} {g : g_S} {n : NS} {m : YS} (hy : y) (hR : RC w y g n m) : Rf (fun a b => RC w y a n b) (M_Y_emptyTree 1838 g) (N_Y_emptyTree m) := by
  unfold M_Y_emptyTree N_Y_emptyTree
  refine rf_bind (fL_Y_emptyTree_2 hy (e_n 0) (show inR 0 by decide) hR) (fun a2 m1 h => ?_)
  have hR3 : RC w y a2 n m1 := h
  refine y_pI hR3 hy yk68 ⟨yt68, yz68⟩ (e_n 0) (show inR 0 by decide) (fun g7 m5 hR6 => ?_)
  refine v_c2 (y_gt hR6 hy) ?_
  refine rf_c2 (f_Y_fresh hy (e_m 1) (show inR (-1) by decide) hR6) (fun a11 g14 b h => ?_)
  obtain ⟨z9, m12⟩ := b
  refine rf_v2 ?_
  obtain ⟨rfl, r10⟩ := (show RI a11 z9 from h.1)
  have hR13 : RC w y g14 n m12 := h.2
  refine y_Q hR13 hy ya46.1 (by decide) ?_
  refine y_sI hR13 hy ya46 yl46 rfl r10 (e_n 0) (show inR 0 by decide) (fun g19 m17 hR18 => ?_)
  refine y_Q hR18 hy ya47.1 (by decide) ?_
  refine y_sB hR18 hy ya47 yl47 (e_n 0) (show inR 0 by decide) (e_n 100) (show inB 100 by decide) (fun g24 m22 hR23 => ?_)
  refine y_Q hR23 hy ya47.1 (by decide) ?_
  refine y_sB hR23 hy ya47 yl47 (e_n 1) (show inR 1 by decide) (e_n 105) (show inB 105 by decide) (fun g29 m27 hR28 => ?_)
  refine y_Q hR28 hy ya47.1 (by decide) ?_
  refine y_sB hR28 hy ya47 yl47 (e_n 2) (show inR 2 by decide) (e_n 118) (show inB 118 by decide) (fun g34 m32 hR33 => ?_)
  refine y_Q hR33 hy ya48.1 (by decide) ?_
  refine y_sI hR33 hy ya48 yl48 (e_n 0) (show inR 0 by decide) (e_n 3) (show inR 3 by decide) (fun g39 m37 hR38 => ?_)
  exact rf_ok (by exact hR38)
noncomputable def nb_Y_putFour_3 (v1 : Int) (v2 : Int) (m : YS) : Option ((Int × YS) ⊕ (YS)) :=
  if v2 < 0 then
    some (.inr m)
  else
    sh5 v2 <|
    ix (m 1 0) 2000 <|
    st (yw m 0 (m 1 0) (Int.bmod (v1 / 2 ^ Int.toNat v2) 256)) fun m6 =>
    ck ((m6 1 0) + 1) <|
    st (yw m6 1 0 ((m6 1 0) + 1)) fun m12 =>
    ck (v2 + (-8)) <|
    some (.inl (v2 + (-8), m12))
theorem fb_Y_putFour_3 {w y : Prop} {g : g_S} {n : NS} {m : YS} (hy : y) {xv1 : Int32} {v1 : Int} (ev1 : xv1 = Int32.ofInt v1) (rv1 : inR v1) {xv2 : Int32} {v2 : Int} (ev2 : xv2 = Int32.ofInt v2) (rv2 : inR v2) (hR : RC w y g n m) : Rf (RS (fun a b => RI a.1 b.1 ∧ RC w y a.2 n b.2) (fun a b => RC w y a n b)) (b_Y_putFour_3 1838 xv1 xv2 g) (nb_Y_putFour_3 v1 v2 m) := by
  subst ev1
  subst ev2
  unfold b_Y_putFour_3 nb_Y_putFour_3
  refine rf_lt rfl (e_n 0) rv2 (show inR 0 by decide) ?_ ?_
  · exact rf_ok (by exact hR)
  · refine y_Q hR hy ya0.1 (by decide) ?_
    refine y_I hR hy yk1 yt1 (fun h3 => ?_)
    refine rf_sh5 (fun h4 => ?_)
    refine y_sB hR hy ya0 yl0 rfl h3 (e_b (e_shr rfl rv1 rfl h4)) b_b (fun g8 m6 hR7 => ?_)
    refine y_I hR7 hy yk1 yt1 (fun h9 => ?_)
    refine rf_ck (fun h10 => ?_)
    refine y_pI hR7 hy yk1 ⟨yt1, yz1⟩ (e_add rfl (e_n 1)) h10 (fun g14 m12 hR13 => ?_)
    refine rf_ck (fun h15 => ?_)
    exact rf_ok (by exact ⟨⟨(e_add rfl (e_m 8)), h15⟩, hR13⟩)
noncomputable def NL_Y_putFour_3 (v1 : Int) (v2 : Int) (m : YS) : Option (YS) :=
  it (fun s : Int × YS => nb_Y_putFour_3 v1 s.1 s.2) (v2, m)
theorem fL_Y_putFour_3 {w y : Prop} {g : g_S} {n : NS} {m : YS} (hy : y) {xv1 : Int32} {v1 : Int} (ev1 : xv1 = Int32.ofInt v1) (rv1 : inR v1) {xv2 : Int32} {v2 : Int} (ev2 : xv2 = Int32.ofInt v2) (rv2 : inR v2) (hR : RC w y g n m) : Rf (fun a b => RC w y a n b) (L_Y_putFour_3 1838 xv1 xv2 g) (NL_Y_putFour_3 v1 v2 m) := by
  subst ev1
  subst ev2
  unfold L_Y_putFour_3 NL_Y_putFour_3
  refine rf_it (I := (fun a b => RI a.1 b.1 ∧ RC w y a.2 n b.2)) (fun s t h => ?_) ⟨⟨rfl, rv2⟩, hR⟩
  exact fb_Y_putFour_3 hy rfl rv1 h.1.1 h.1.2 h.2
theorem NL_Y_putFour_3_eq (v1 : Int) (v2 : Int) (m : YS) : NL_Y_putFour_3 v1 v2 m = itc (nb_Y_putFour_3 v1 v2 m) (fun s => NL_Y_putFour_3 v1 s.1 s.2) := it_eq2 (fun s : Int × YS => nb_Y_putFour_3 v1 s.1 s.2) (v2, m)
noncomputable def N_Y_putFour (v1 : Int) (m : YS) : Option (YS) :=
  (NL_Y_putFour_3 v1 24 m).bind <| fun m1 =>
  some m1
theorem f_Y_putFour {w y : Prop} {g : g_S} {n : NS} {m : YS} (hy : y) {xv1 : Int32} {v1 : Int} (ev1 : xv1 = Int32.ofInt v1) (rv1 : inR v1) (hR : RC w y g n m) : Rf (fun a b => RC w y a n b) (M_Y_putFour 1838 xv1 g) (N_Y_putFour v1 m) := by
  subst ev1
  unfold M_Y_putFour N_Y_putFour
  refine rf_bind (fL_Y_putFour_3 hy rfl rv1 (e_n 24) (show inR 24 by decide) hR) (fun a2 m1 h => ?_)
  have hR3 : RC w y a2 n m1 := h
  exact rf_ok (by exact hR3)
noncomputable def N_Y_feed (v1 : Int) (v2 : Int) (v3 : Int) (v4 : Int) (v5 : Int) (m : YS) : Option (Int × YS) :=
  ck ((m 1 0) + 20) <|
  if 2000 < ((m 1 0) + 20) then
    some ((-1), m)
  else
    (N_Y_putFour v1 m).bind fun m6 =>
    (N_Y_putFour v2 m6).bind fun m10 =>
    (N_Y_putFour v3 m10).bind fun m14 =>
    (N_Y_putFour v4 m14).bind fun m18 =>
    (N_Y_putFour v5 m18).bind fun m22 =>
    some ((m22 1 0), m22)
theorem f_Y_feed {w y : Prop} {g : g_S} {n : NS} {m : YS} (hy : y) {xv1 : Int32} {v1 : Int} (ev1 : xv1 = Int32.ofInt v1) (rv1 : inR v1) {xv2 : Int32} {v2 : Int} (ev2 : xv2 = Int32.ofInt v2) (rv2 : inR v2) {xv3 : Int32} {v3 : Int} (ev3 : xv3 = Int32.ofInt v3) (rv3 : inR v3) {xv4 : Int32} {v4 : Int} (ev4 : xv4 = Int32.ofInt v4) (rv4 : inR v4) {xv5 : Int32} {v5 : Int} (ev5 : xv5 = Int32.ofInt v5) (rv5 : inR v5) (hR : RC w y g n m) : Rf (fun a b => RI a.1 b.1 ∧ RC w y a.2 n b.2) (M_Y_feed 1838 xv1 xv2 xv3 xv4 xv5 g) (N_Y_feed v1 v2 v3 v4 v5 m) := by
  subst ev1
  subst ev2
  subst ev3
  subst ev4
  subst ev5
  unfold M_Y_feed N_Y_feed
  refine y_I hR hy yk1 yt1 (fun h1 => ?_)
  refine rf_ck (fun h2 => ?_)
  refine rf_lt (e_n 2000) (e_add rfl (e_n 20)) (show inR 2000 by decide) h2 ?_ ?_
  · exact rf_ok (by exact ⟨⟨(e_m 1), (show inR (-1) by decide)⟩, hR⟩)
  · refine v_c (y_gt hR hy) ?_
    refine rf_bind (f_Y_putFour hy rfl rv1 hR) (fun g8 m6 hR7 => ?_)
    refine v_c (y_gt hR7 hy) ?_
    refine rf_bind (f_Y_putFour hy rfl rv2 hR7) (fun g12 m10 hR11 => ?_)
    refine v_c (y_gt hR11 hy) ?_
    refine rf_bind (f_Y_putFour hy rfl rv3 hR11) (fun g16 m14 hR15 => ?_)
    refine v_c (y_gt hR15 hy) ?_
    refine rf_bind (f_Y_putFour hy rfl rv4 hR15) (fun g20 m18 hR19 => ?_)
    refine v_c (y_gt hR19 hy) ?_
    refine rf_bind (f_Y_putFour hy rfl rv5 hR19) (fun g24 m22 hR23 => ?_)
    refine y_I hR23 hy yk1 yt1 (fun h25 => ?_)
    exact rf_ok (by exact ⟨⟨rfl, h25⟩, hR23⟩)
noncomputable def N_Y_end (v1 : Int) (m : YS) : Option (Int × YS) :=
  if v1 < 0 then
    some ((-1), m)
  else
    if (m 1 0) < v1 then
      some ((-1), m)
    else
      st (yw m 1 0 v1) fun m7 =>
      some (v1, m7)
theorem f_Y_end {w y : Prop} {g : g_S} {n : NS} {m : YS} (hy : y) {xv1 : Int32} {v1 : Int} (ev1 : xv1 = Int32.ofInt v1) (rv1 : inR v1) (hR : RC w y g n m) : Rf (fun a b => RI a.1 b.1 ∧ RC w y a.2 n b.2) (M_Y_end 1838 xv1 g) (N_Y_end v1 m) := by
  subst ev1
  unfold M_Y_end N_Y_end
  refine rf_lt rfl (e_n 0) rv1 (show inR 0 by decide) ?_ ?_
  · exact rf_ok (by exact ⟨⟨(e_m 1), (show inR (-1) by decide)⟩, hR⟩)
  · refine y_I hR hy yk1 yt1 (fun h3 => ?_)
    refine rf_lt rfl rfl h3 rv1 ?_ ?_
    · exact rf_ok (by exact ⟨⟨(e_m 1), (show inR (-1) by decide)⟩, hR⟩)
    · refine y_pI hR hy yk1 ⟨yt1, yz1⟩ rfl rv1 (fun g9 m7 hR8 => ?_)
      exact rf_ok (by exact ⟨⟨rfl, rv1⟩, hR8⟩)
noncomputable def N_Y_out (v1 : Int) (m : YS) : Option (Int) :=
  if v1 < 0 then
    some (-1)
  else
    if v1 < (m 5 0) then
      ix v1 8000 <|
      some ((m 4 v1) % 256)
    else
      some (-1)
theorem f_Y_out {w y : Prop} {g : g_S} {n : NS} {m : YS} (hy : y) {xv1 : Int32} {v1 : Int} (ev1 : xv1 = Int32.ofInt v1) (rv1 : inR v1) (hR : RC w y g n m) : Rf (fun a b => RI a b) (M_Y_out 1838 xv1 g) (N_Y_out v1 m) := by
  subst ev1
  unfold M_Y_out N_Y_out
  refine rf_lt rfl (e_n 0) rv1 (show inR 0 by decide) ?_ ?_
  · exact rf_ok (by exact ⟨(e_m 1), (show inR (-1) by decide)⟩)
  · refine y_I hR hy yk5 yt5 (fun h3 => ?_)
    refine rf_lt rfl rfl rv1 h3 ?_ ?_
    · refine y_Q hR hy ya4.1 (by decide) ?_
      refine y_aB hR hy ya4 yl4 rfl rv1 (fun h6 h7 => ?_)
      exact rf_ok (by exact ⟨(e_and255 rfl), m255⟩)
    · exact rf_ok (by exact ⟨(e_m 1), (show inR (-1) by decide)⟩)
noncomputable def N_Y_resolve0 (m : YS) : Option (Int × YS) :=
  (N_Y_refer 2 0 (m 3 0) 1 m).bind <| u2 fun z4 m7 =>
  some (z4, m7)
theorem f_Y_resolve0 {w y : Prop} {g : g_S} {n : NS} {m : YS} (hy : y) (hR : RC w y g n m) : Rf (fun a b => RZ a.1 b.1 ∧ RC w y a.2 n b.2) (M_Y_resolve0 1838 g) (N_Y_resolve0 m) := by
  unfold M_Y_resolve0 N_Y_resolve0
  refine y_Q hR hy ya2.1 (by decide) ?_
  refine y_I hR hy yk3 yt3 (fun h2 => ?_)
  refine v_c2 (y_gt hR hy) ?_
  refine rf_c2 (f_Y_refer hy rfl ya2 (e_n 0) (show inR 0 by decide) rfl h2 (e_n 1) (show inR 1 by decide) hR) (fun a6 g9 b h => ?_)
  obtain ⟨z4, m7⟩ := b
  refine rf_v2 ?_
  obtain ⟨rfl, r5⟩ := (show RZ a6 z4 from h.1)
  have hR8 : RC w y g9 n m7 := h.2
  refine rf_tz rfl r5 ?_
  exact rf_ok (by exact ⟨⟨rfl, r5⟩, hR8⟩)
noncomputable def N_Y_sayRow (v1 : Int) (m : YS) : Option (YS) :=
  ck (v1 * 150) <|
  ix v1 66 <|
  (N_Y_sayAll 6 (v1 * 150) (m 7 v1) m).bind fun m7 =>
  ix v1 66 <|
  if 0 < (m7 8 v1) then
    (N_Y_say 35 m7).bind fun m15 =>
    ck (v1 * 150) <|
    ck ((v1 * 150) + 135) <|
    ix v1 66 <|
    (N_Y_sayAll 6 ((v1 * 150) + 135) (m15 8 v1) m15).bind fun m25 =>
    some m25
  else
    some m7
theorem f_Y_sayRow {w y : Prop} {g : g_S} {n : NS} {m : YS} (hy : y) {xv1 : Int32} {v1 : Int} (ev1 : xv1 = Int32.ofInt v1) (rv1 : inR v1) (hR : RC w y g n m) : Rf (fun a b => RC w y a n b) (M_Y_sayRow 1838 xv1 g) (N_Y_sayRow v1 m) := by
  subst ev1
  unfold M_Y_sayRow N_Y_sayRow
  refine y_Q hR hy ya6.1 (by decide) ?_
  refine rf_ck (fun h2 => ?_)
  refine y_Q hR hy ya7.1 (by decide) ?_
  refine y_aI hR hy ya7 yl7 rfl rv1 (fun h4 h5 => ?_)
  refine v_c (y_gt hR hy) ?_
  refine rf_bind (f_Y_sayAll hy rfl ya6 (e_mul rfl (e_n 150)) h2 rfl h5 hR) (fun g9 m7 hR8 => ?_)
  refine y_Q hR8 hy ya8.1 (by decide) ?_
  refine y_aI hR8 hy ya8 yl8 rfl rv1 (fun h11 h12 => ?_)
  refine rf_lt (e_n 0) rfl (show inR 0 by decide) h12 ?_ ?_
  · refine v_c (y_gt hR8 hy) ?_
    refine rf_bind (f_Y_say hy (e_n 35) (show inR 35 by decide) hR8) (fun g17 m15 hR16 => ?_)
    refine y_Q hR16 hy ya6.1 (by decide) ?_
    refine rf_ck (fun h19 => ?_)
    refine rf_ck (fun h20 => ?_)
    refine y_Q hR16 hy ya8.1 (by decide) ?_
    refine y_aI hR16 hy ya8 yl8 rfl rv1 (fun h22 h23 => ?_)
    refine v_c (y_gt hR16 hy) ?_
    refine rf_bind (f_Y_sayAll hy rfl ya6 (e_add (e_mul rfl (e_n 150)) (e_n 135)) h20 rfl h23 hR16) (fun g27 m25 hR26 => ?_)
    exact rf_ok (by exact hR26)
  · exact rf_ok (by exact hR8)
noncomputable def N_Y_resolve (m : YS) : Option (Int × YS) :=
  (N_Y_take m).bind <| u2 fun z2 m5 =>
  if z2 < 0 then
    (N_Y_resolve0 m5).bind <| u2 fun z10 m13 =>
    if z10 = 0 then
      some ((-1), m13)
    else
      st (yw m13 5 0 0) fun m19 =>
      (N_Y_sayRow 0 m19).bind fun m23 =>
      some ((m23 5 0), m23)
  else
    (N_Y_wrong z2 m5).bind fun z29 =>
    some (z29, m5)
theorem f_Y_resolve {w y : Prop} {g : g_S} {n : NS} {m : YS} (hy : y) (hR : RC w y g n m) : Rf (fun a b => RI a.1 b.1 ∧ RC w y a.2 n b.2) (M_Y_resolve 1838 g) (N_Y_resolve m) := by
  unfold M_Y_resolve N_Y_resolve
  refine v_c2 (y_gt hR hy) ?_
  refine rf_c2 (f_Y_take hy hR) (fun a4 g7 b h => ?_)
  obtain ⟨z2, m5⟩ := b
  refine rf_v2 ?_
  obtain ⟨rfl, r3⟩ := (show RI a4 z2 from h.1)
  have hR6 : RC w y g7 n m5 := h.2
  refine rf_lt rfl (e_n 0) r3 (show inR 0 by decide) ?_ ?_
  · refine v_c2 (y_gt hR6 hy) ?_
    refine rf_c2 (f_Y_resolve0 hy hR6) (fun a12 g15 b h => ?_)
    obtain ⟨z10, m13⟩ := b
    refine rf_v2 ?_
    obtain ⟨rfl, r11⟩ := (show RZ a12 z10 from h.1)
    have hR14 : RC w y g15 n m13 := h.2
    refine rf_eq rfl (e_n 0) (inZ.r r11) (show inR 0 by decide) ?_ ?_
    · exact rf_ok (by exact ⟨⟨(e_m 1), (show inR (-1) by decide)⟩, hR14⟩)
    · refine y_pI hR14 hy yk5 ⟨yt5, yz5⟩ (e_n 0) (show inR 0 by decide) (fun g21 m19 hR20 => ?_)
      refine v_c (y_gt hR20 hy) ?_
      refine rf_bind (f_Y_sayRow hy (e_n 0) (show inR 0 by decide) hR20) (fun g25 m23 hR24 => ?_)
      refine y_I hR24 hy yk5 yt5 (fun h26 => ?_)
      exact rf_ok (by exact ⟨⟨rfl, h26⟩, hR24⟩)
  · refine rf_bind (f_Y_wrong hy rfl r3 hR6) (fun a31 z29 h => ?_)
    obtain ⟨rfl, r30⟩ := h
    exact rf_ok (by exact ⟨⟨rfl, r30⟩, hR6⟩)
noncomputable def N_Y_begin (m : YS) : Option (YS) :=
  st (yw m 152 0 0) fun m2 =>
  st (yw m2 153 0 0) fun m6 =>
  st (yw m6 154 0 0) fun m10 =>
  st (yw m10 163 0 0) fun m14 =>
  st (yw m14 158 0 0) fun m18 =>
  some m18
theorem f_Y_begin {w y : Prop} {g : g_S} {n : NS} {m : YS} (hy : y) (hR : RC w y g n m) : Rf (fun a b => RC w y a n b) (M_Y_begin 1838 g) (N_Y_begin m) := by
  unfold M_Y_begin N_Y_begin
  refine y_pZ hR hy yk152 yt152 (e_n 0) (.inl rfl) (fun g4 m2 hR3 => ?_)
  refine y_pZ hR3 hy yk153 yt153 (e_n 0) (.inl rfl) (fun g8 m6 hR7 => ?_)
  refine y_pZ hR7 hy yk154 yt154 (e_n 0) (.inl rfl) (fun g12 m10 hR11 => ?_)
  refine y_pZ hR11 hy yk163 yt163 (e_n 0) (.inl rfl) (fun g16 m14 hR15 => ?_)
  refine y_pI hR15 hy yk158 ⟨yt158, yz158⟩ (e_n 0) (show inR 0 by decide) (fun g20 m18 hR19 => ?_)
  exact rf_ok (by exact hR19)
noncomputable def nb_Y_remember_21 (v1 : Int) (m : YS) : Option ((Int × YS) ⊕ (YS)) :=
  if v1 < 20 then
    ck (26 + v1) <|
    ck ((26 + v1) - 1) <|
    ck (26 + v1) <|
    (N_Y_copyRow ((26 + v1) - 1) (26 + v1) m).bind fun m6 =>
    ck (v1 + 1) <|
    some (.inl (v1 + 1, m6))
  else
    some (.inr m)
theorem fb_Y_remember_21 {w y : Prop} {g : g_S} {n : NS} {m : YS} (hy : y) {xv1 : Int32} {v1 : Int} (ev1 : xv1 = Int32.ofInt v1) (rv1 : inR v1) (hR : RC w y g n m) : Rf (RS (fun a b => RI a.1 b.1 ∧ RC w y a.2 n b.2) (fun a b => RC w y a n b)) (b_Y_remember_21 1838 xv1 g) (nb_Y_remember_21 v1 m) := by
  subst ev1
  unfold b_Y_remember_21 nb_Y_remember_21
  refine rf_lt rfl (e_n 20) rv1 (show inR 20 by decide) ?_ ?_
  · refine rf_ck (fun h2 => ?_)
    refine rf_ck (fun h3 => ?_)
    refine rf_ck (fun h4 => ?_)
    refine v_c (y_gt hR hy) ?_
    refine rf_bind (f_Y_copyRow hy (e_sub (e_add (e_n 26) rfl) (e_n 1)) h3 (e_add (e_n 26) rfl) h4 hR) (fun g8 m6 hR7 => ?_)
    refine rf_ck (fun h9 => ?_)
    exact rf_ok (by exact ⟨⟨(e_add rfl (e_n 1)), h9⟩, hR7⟩)
  · exact rf_ok (by exact hR)
noncomputable def NL_Y_remember_21 (v1 : Int) (m : YS) : Option (YS) :=
  it (fun s : Int × YS => nb_Y_remember_21 s.1 s.2) (v1, m)
theorem fL_Y_remember_21 {w y : Prop} {g : g_S} {n : NS} {m : YS} (hy : y) {xv1 : Int32} {v1 : Int} (ev1 : xv1 = Int32.ofInt v1) (rv1 : inR v1) (hR : RC w y g n m) : Rf (fun a b => RC w y a n b) (L_Y_remember_21 1838 xv1 g) (NL_Y_remember_21 v1 m) := by
  subst ev1
  unfold L_Y_remember_21 NL_Y_remember_21
  refine rf_it (I := (fun a b => RI a.1 b.1 ∧ RC w y a.2 n b.2)) (fun s t h => ?_) ⟨⟨rfl, rv1⟩, hR⟩
  exact fb_Y_remember_21 hy h.1.1 h.1.2 h.2
theorem NL_Y_remember_21_eq (v1 : Int) (m : YS) : NL_Y_remember_21 v1 m = itc (nb_Y_remember_21 v1 m) (fun s => NL_Y_remember_21 s.1 s.2) := it_eq2 (fun s : Int × YS => nb_Y_remember_21 s.1 s.2) (v1, m)
noncomputable def nk_Y_remember_57 (m : YS) : Option (YS) :=
  st (yw m 149 0 (m 148 0)) fun m3 =>
  ck (26 + (m3 148 0)) <|
  (N_Y_copyRow (26 + (m3 148 0)) 1 m3).bind fun m9 =>
  ck ((m9 148 0) + 1) <|
  st (yw m9 148 0 ((m9 148 0) + 1)) fun m15 =>
  some m15
theorem fk_Y_remember_57 {w y : Prop} {g : g_S} {n : NS} {m : YS} (hy : y) (hR : RC w y g n m) : Rf (fun a b => RC w y a n b) (k_Y_remember_57 1838 g) (nk_Y_remember_57 m) := by
  unfold k_Y_remember_57 nk_Y_remember_57
  refine y_I hR hy yk148 yt148 (fun h1 => ?_)
  refine y_pI hR hy yk149 ⟨yt149, yz149⟩ rfl h1 (fun g5 m3 hR4 => ?_)
  refine y_I hR4 hy yk148 yt148 (fun h6 => ?_)
  refine rf_ck (fun h7 => ?_)
  refine v_c (y_gt hR4 hy) ?_
  refine rf_bind (f_Y_copyRow hy (e_add (e_n 26) rfl) h7 (e_n 1) (show inR 1 by decide) hR4) (fun g11 m9 hR10 => ?_)
  refine y_I hR10 hy yk148 yt148 (fun h12 => ?_)
  refine rf_ck (fun h13 => ?_)
  refine y_pI hR10 hy yk148 ⟨yt148, yz148⟩ (e_add rfl (e_n 1)) h13 (fun g17 m15 hR16 => ?_)
  exact rf_ok (by exact hR16)
noncomputable def N_Y_remember (m : YS) : Option (YS) :=
  ck ((m 149 0) + 1) <|
  st (yw m 148 0 ((m 149 0) + 1)) fun m4 =>
  if (m4 148 0) = 20 then
    (NL_Y_remember_21 1 m4).bind <| fun m9 =>
    ck ((m9 148 0) - 1) <|
    st (yw m9 148 0 ((m9 148 0) - 1)) fun m15 =>
    nk_Y_remember_57 m15
  else
    nk_Y_remember_57 m4
theorem f_Y_remember {w y : Prop} {g : g_S} {n : NS} {m : YS} (hy : y) (hR : RC w y g n m) : Rf (fun a b => RC w y a n b) (M_Y_remember 1838 g) (N_Y_remember m) := by
  unfold M_Y_remember N_Y_remember
  refine y_I hR hy yk149 yt149 (fun h1 => ?_)
  refine rf_ck (fun h2 => ?_)
  refine y_pI hR hy yk148 ⟨yt148, yz148⟩ (e_add rfl (e_n 1)) h2 (fun g6 m4 hR5 => ?_)
  refine y_I hR5 hy yk148 yt148 (fun h7 => ?_)
  refine rf_eq rfl (e_n 20) h7 (show inR 20 by decide) ?_ ?_
  · refine rf_bind (fL_Y_remember_21 hy (e_n 1) (show inR 1 by decide) hR5) (fun a10 m9 h => ?_)
    have hR11 : RC w y a10 n m9 := h
    refine y_I hR11 hy yk148 yt148 (fun h12 => ?_)
    refine rf_ck (fun h13 => ?_)
    refine y_pI hR11 hy yk148 ⟨yt148, yz148⟩ (e_sub rfl (e_n 1)) h13 (fun g17 m15 hR16 => ?_)
    exact fk_Y_remember_57 hy hR16
  · exact fk_Y_remember_57 hy hR5
noncomputable def N_Y_send (v1 : Int) (m : YS) : Option (YS) :=
  ix (m 37 0) 400 <|
  st (yw m 36 (m 37 0) (Int.bmod v1 256)) fun m4 =>
  ck ((m4 37 0) + 1) <|
  st (yw m4 37 0 ((m4 37 0) + 1)) fun m10 =>
  some m10
theorem f_Y_send {w y : Prop} {g : g_S} {n : NS} {m : YS} (hy : y) {xv1 : Int32} {v1 : Int} (ev1 : xv1 = Int32.ofInt v1) (rv1 : inR v1) (hR : RC w y g n m) : Rf (fun a b => RC w y a n b) (M_Y_send 1838 xv1 g) (N_Y_send v1 m) := by
  subst ev1
  unfold M_Y_send N_Y_send
  refine y_Q hR hy ya36.1 (by decide) ?_
  refine y_I hR hy yk37 yt37 (fun h2 => ?_)
  refine y_sB hR hy ya36 yl36 rfl h2 (e_b rfl) b_b (fun g6 m4 hR5 => ?_)
  refine y_I hR5 hy yk37 yt37 (fun h7 => ?_)
  refine rf_ck (fun h8 => ?_)
  refine y_pI hR5 hy yk37 ⟨yt37, yz37⟩ (e_add rfl (e_n 1)) h8 (fun g12 m10 hR11 => ?_)
  exact rf_ok (by exact hR11)
noncomputable def nb_Y_tellCookies_73 (v1 : Int) (v2 : Int) (v3 : Int) (m : YS) : Option ((Int × YS) ⊕ (YS)) :=
  ix v2 20 <|
  if v3 < (m 33 v2) then
    ck (24 * v2) <|
    ck ((24 * v2) + 8) <|
    ck (((24 * v2) + 8) + v3) <|
    ix (((24 * v2) + 8) + v3) 480 <|
    (N_Y_send (m 31 (((24 * v2) + 8) + v3)) m).bind fun m12 =>
    ck (v3 + 1) <|
    some (.inl (v3 + 1, m12))
  else
    some (.inr m)
theorem fb_Y_tellCookies_73 {w y : Prop} {g : g_S} {n : NS} {m : YS} (hy : y) {xv1 : Int32} {v1 : Int} (ev1 : xv1 = Int32.ofInt v1) (rv1 : inR v1) {xv2 : Int32} {v2 : Int} (ev2 : xv2 = Int32.ofInt v2) (rv2 : inR v2) {xv3 : Int32} {v3 : Int} (ev3 : xv3 = Int32.ofInt v3) (rv3 : inR v3) (hR : RC w y g n m) : Rf (RS (fun a b => RI a.1 b.1 ∧ RC w y a.2 n b.2) (fun a b => RC w y a n b)) (b_Y_tellCookies_73 1838 xv1 xv2 xv3 g) (nb_Y_tellCookies_73 v1 v2 v3 m) := by
  subst ev1
  subst ev2
  subst ev3
  unfold b_Y_tellCookies_73 nb_Y_tellCookies_73
  refine y_Q hR hy ya33.1 (by decide) ?_
  refine y_aI hR hy ya33 yl33 rfl rv2 (fun h2 h3 => ?_)
  refine rf_lt rfl rfl rv3 h3 ?_ ?_
  · refine y_Q hR hy ya31.1 (by decide) ?_
    refine rf_ck (fun h6 => ?_)
    refine rf_ck (fun h7 => ?_)
    refine rf_ck (fun h8 => ?_)
    refine y_aB hR hy ya31 yl31 (e_add (e_add (e_mul (e_n 24) rfl) (e_n 8)) rfl) h8 (fun h9 h10 => ?_)
    refine v_c (y_gt hR hy) ?_
    refine rf_bind (f_Y_send hy rfl (inB.r h10) hR) (fun g14 m12 hR13 => ?_)
    refine rf_ck (fun h15 => ?_)
    exact rf_ok (by exact ⟨⟨(e_add rfl (e_n 1)), h15⟩, hR13⟩)
  · exact rf_ok (by exact hR)
noncomputable def NL_Y_tellCookies_73 (v1 : Int) (v2 : Int) (v3 : Int) (m : YS) : Option (YS) :=
  it (fun s : Int × YS => nb_Y_tellCookies_73 v1 v2 s.1 s.2) (v3, m)
theorem fL_Y_tellCookies_73 {w y : Prop} {g : g_S} {n : NS} {m : YS} (hy : y) {xv1 : Int32} {v1 : Int} (ev1 : xv1 = Int32.ofInt v1) (rv1 : inR v1) {xv2 : Int32} {v2 : Int} (ev2 : xv2 = Int32.ofInt v2) (rv2 : inR v2) {xv3 : Int32} {v3 : Int} (ev3 : xv3 = Int32.ofInt v3) (rv3 : inR v3) (hR : RC w y g n m) : Rf (fun a b => RC w y a n b) (L_Y_tellCookies_73 1838 xv1 xv2 xv3 g) (NL_Y_tellCookies_73 v1 v2 v3 m) := by
  subst ev1
  subst ev2
  subst ev3
  unfold L_Y_tellCookies_73 NL_Y_tellCookies_73
  refine rf_it (I := (fun a b => RI a.1 b.1 ∧ RC w y a.2 n b.2)) (fun s t h => ?_) ⟨⟨rfl, rv3⟩, hR⟩
  exact fb_Y_tellCookies_73 hy rfl rv1 rfl rv2 h.1.1 h.1.2 h.2
theorem NL_Y_tellCookies_73_eq (v1 : Int) (v2 : Int) (v3 : Int) (m : YS) : NL_Y_tellCookies_73 v1 v2 v3 m = itc (nb_Y_tellCookies_73 v1 v2 v3 m) (fun s => NL_Y_tellCookies_73 v1 v2 s.1 s.2) := it_eq2 (fun s : Int × YS => nb_Y_tellCookies_73 v1 v2 s.1 s.2) (v3, m)
noncomputable def nb_Y_tellCookies_115 (v1 : Int) (v2 : Int) (v3 : Int) (m : YS) : Option ((Int × YS) ⊕ (YS)) :=
  ix v2 20 <|
  if v3 < (m 34 v2) then
    ck (24 * v2) <|
    ck ((24 * v2) + 16) <|
    ck (((24 * v2) + 16) + v3) <|
    ix (((24 * v2) + 16) + v3) 480 <|
    (N_Y_send (m 31 (((24 * v2) + 16) + v3)) m).bind fun m12 =>
    ck (v3 + 1) <|
    some (.inl (v3 + 1, m12))
  else
    some (.inr m)
theorem fb_Y_tellCookies_115 {w y : Prop} {g : g_S} {n : NS} {m : YS} (hy : y) {xv1 : Int32} {v1 : Int} (ev1 : xv1 = Int32.ofInt v1) (rv1 : inR v1) {xv2 : Int32} {v2 : Int} (ev2 : xv2 = Int32.ofInt v2) (rv2 : inR v2) {xv3 : Int32} {v3 : Int} (ev3 : xv3 = Int32.ofInt v3) (rv3 : inR v3) (hR : RC w y g n m) : Rf (RS (fun a b => RI a.1 b.1 ∧ RC w y a.2 n b.2) (fun a b => RC w y a n b)) (b_Y_tellCookies_115 1838 xv1 xv2 xv3 g) (nb_Y_tellCookies_115 v1 v2 v3 m) := by
  subst ev1
  subst ev2
  subst ev3
  unfold b_Y_tellCookies_115 nb_Y_tellCookies_115
  refine y_Q hR hy ya34.1 (by decide) ?_
  refine y_aI hR hy ya34 yl34 rfl rv2 (fun h2 h3 => ?_)
  refine rf_lt rfl rfl rv3 h3 ?_ ?_
  · refine y_Q hR hy ya31.1 (by decide) ?_
    refine rf_ck (fun h6 => ?_)
    refine rf_ck (fun h7 => ?_)
    refine rf_ck (fun h8 => ?_)
    refine y_aB hR hy ya31 yl31 (e_add (e_add (e_mul (e_n 24) rfl) (e_n 16)) rfl) h8 (fun h9 h10 => ?_)
    refine v_c (y_gt hR hy) ?_
    refine rf_bind (f_Y_send hy rfl (inB.r h10) hR) (fun g14 m12 hR13 => ?_)
    refine rf_ck (fun h15 => ?_)
    exact rf_ok (by exact ⟨⟨(e_add rfl (e_n 1)), h15⟩, hR13⟩)
  · exact rf_ok (by exact hR)
noncomputable def NL_Y_tellCookies_115 (v1 : Int) (v2 : Int) (v3 : Int) (m : YS) : Option (YS) :=
  it (fun s : Int × YS => nb_Y_tellCookies_115 v1 v2 s.1 s.2) (v3, m)
theorem fL_Y_tellCookies_115 {w y : Prop} {g : g_S} {n : NS} {m : YS} (hy : y) {xv1 : Int32} {v1 : Int} (ev1 : xv1 = Int32.ofInt v1) (rv1 : inR v1) {xv2 : Int32} {v2 : Int} (ev2 : xv2 = Int32.ofInt v2) (rv2 : inR v2) {xv3 : Int32} {v3 : Int} (ev3 : xv3 = Int32.ofInt v3) (rv3 : inR v3) (hR : RC w y g n m) : Rf (fun a b => RC w y a n b) (L_Y_tellCookies_115 1838 xv1 xv2 xv3 g) (NL_Y_tellCookies_115 v1 v2 v3 m) := by
  subst ev1
  subst ev2
  subst ev3
  unfold L_Y_tellCookies_115 NL_Y_tellCookies_115
  refine rf_it (I := (fun a b => RI a.1 b.1 ∧ RC w y a.2 n b.2)) (fun s t h => ?_) ⟨⟨rfl, rv3⟩, hR⟩
  exact fb_Y_tellCookies_115 hy rfl rv1 rfl rv2 h.1.1 h.1.2 h.2
theorem NL_Y_tellCookies_115_eq (v1 : Int) (v2 : Int) (v3 : Int) (m : YS) : NL_Y_tellCookies_115 v1 v2 v3 m = itc (nb_Y_tellCookies_115 v1 v2 v3 m) (fun s => NL_Y_tellCookies_115 v1 v2 s.1 s.2) := it_eq2 (fun s : Int × YS => nb_Y_tellCookies_115 v1 v2 s.1 s.2) (v3, m)
noncomputable def nk_Y_tellCookies_71 (v1 : Int) (v2 : Int) (m : YS) : Option ((Int × YS) ⊕ (YS)) :=
  (NL_Y_tellCookies_73 v1 v2 0 m).bind <| fun m1 =>
  (N_Y_send 61 m1).bind fun m5 =>
  (NL_Y_tellCookies_115 v1 v2 0 m5).bind <| fun m8 =>
  ck (v2 + 1) <|
  some (.inl (v2 + 1, m8))
theorem fk_Y_tellCookies_71 {w y : Prop} {g : g_S} {n : NS} {m : YS} (hy : y) {xv1 : Int32} {v1 : Int} (ev1 : xv1 = Int32.ofInt v1) (rv1 : inR v1) {xv2 : Int32} {v2 : Int} (ev2 : xv2 = Int32.ofInt v2) (rv2 : inR v2) (hR : RC w y g n m) : Rf (RS (fun a b => RI a.1 b.1 ∧ RC w y a.2 n b.2) (fun a b => RC w y a n b)) (k_Y_tellCookies_71 1838 xv1 xv2 g) (nk_Y_tellCookies_71 v1 v2 m) := by
  subst ev1
  subst ev2
  unfold k_Y_tellCookies_71 nk_Y_tellCookies_71
  refine rf_bind (fL_Y_tellCookies_73 hy rfl rv1 rfl rv2 (e_n 0) (show inR 0 by decide) hR) (fun a2 m1 h => ?_)
  have hR3 : RC w y a2 n m1 := h
  refine v_c (y_gt hR3 hy) ?_
  refine rf_bind (f_Y_send hy (e_n 61) (show inR 61 by decide) hR3) (fun g7 m5 hR6 => ?_)
  refine rf_bind (fL_Y_tellCookies_115 hy rfl rv1 rfl rv2 (e_n 0) (show inR 0 by decide) hR6) (fun a9 m8 h => ?_)
  have hR10 : RC w y a9 n m8 := h
  refine rf_ck (fun h11 => ?_)
  exact rf_ok (by exact ⟨⟨(e_add rfl (e_n 1)), h11⟩, hR10⟩)
noncomputable def nb_Y_tellCookies_15 (v1 : Int) (v2 : Int) (m : YS) : Option ((Int × YS) ⊕ (YS)) :=
  if v2 < (m 30 0) then
    ix v2 20 <|
    if (m 32 v2) = v1 then
      ck (24 * v2) <|
      (N_Y_same 31 (24 * v2) 6 602 v1 m).bind fun z11 =>
      if z11 = 0 then
        ck (v2 + 1) <|
        some (.inl (v2 + 1, m))
      else
        if 0 < (m 37 0) then
          (N_Y_send 59 m).bind fun m19 =>
          nk_Y_tellCookies_71 v1 v2 m19
        else
          nk_Y_tellCookies_71 v1 v2 m
    else
      ck (v2 + 1) <|
      some (.inl (v2 + 1, m))
  else
    some (.inr m)
theorem fb_Y_tellCookies_15 {w y : Prop} {g : g_S} {n : NS} {m : YS} (hy : y) {xv1 : Int32} {v1 : Int} (ev1 : xv1 = Int32.ofInt v1) (rv1 : inR v1) {xv2 : Int32} {v2 : Int} (ev2 : xv2 = Int32.ofInt v2) (rv2 : inR v2) (hR : RC w y g n m) : Rf (RS (fun a b => RI a.1 b.1 ∧ RC w y a.2 n b.2) (fun a b => RC w y a n b)) (b_Y_tellCookies_15 1838 xv1 xv2 g) (nb_Y_tellCookies_15 v1 v2 m) := by
  subst ev1
  subst ev2
  unfold b_Y_tellCookies_15 nb_Y_tellCookies_15
  refine y_I hR hy yk30 yt30 (fun h1 => ?_)
  refine rf_lt rfl rfl rv2 h1 ?_ ?_
  · refine y_Q hR hy ya32.1 (by decide) ?_
    refine y_aI hR hy ya32 yl32 rfl rv2 (fun h4 h5 => ?_)
    refine rf_eq rfl rfl h5 rv1 ?_ ?_
    · refine y_Q hR hy ya31.1 (by decide) ?_
      refine rf_ck (fun h8 => ?_)
      refine y_Q hR hy ya6.1 (by decide) ?_
      refine rf_bind (f_Y_same hy rfl ya31 (e_mul (e_n 24) rfl) h8 rfl ya6 (e_n 602) (show inR 602 by decide) rfl rv1 hR) (fun a13 z11 h => ?_)
      obtain ⟨rfl, r12⟩ := h
      refine rf_eq rfl (e_n 0) (inZ.r r12) (show inR 0 by decide) ?_ ?_
      · refine rf_ck (fun h15 => ?_)
        exact rf_ok (by exact ⟨⟨(e_add rfl (e_n 1)), h15⟩, hR⟩)
      · refine y_I hR hy yk37 yt37 (fun h16 => ?_)
        refine rf_lt (e_n 0) rfl (show inR 0 by decide) h16 ?_ ?_
        · refine v_c (y_gt hR hy) ?_
          refine rf_bind (f_Y_send hy (e_n 59) (show inR 59 by decide) hR) (fun g21 m19 hR20 => ?_)
          exact fk_Y_tellCookies_71 hy rfl rv1 rfl rv2 hR20
        · exact fk_Y_tellCookies_71 hy rfl rv1 rfl rv2 hR
    · refine rf_ck (fun h22 => ?_)
      exact rf_ok (by exact ⟨⟨(e_add rfl (e_n 1)), h22⟩, hR⟩)
  · exact rf_ok (by exact hR)
noncomputable def NL_Y_tellCookies_15 (v1 : Int) (v2 : Int) (m : YS) : Option (YS) :=
  it (fun s : Int × YS => nb_Y_tellCookies_15 v1 s.1 s.2) (v2, m)
theorem fL_Y_tellCookies_15 {w y : Prop} {g : g_S} {n : NS} {m : YS} (hy : y) {xv1 : Int32} {v1 : Int} (ev1 : xv1 = Int32.ofInt v1) (rv1 : inR v1) {xv2 : Int32} {v2 : Int} (ev2 : xv2 = Int32.ofInt v2) (rv2 : inR v2) (hR : RC w y g n m) : Rf (fun a b => RC w y a n b) (L_Y_tellCookies_15 1838 xv1 xv2 g) (NL_Y_tellCookies_15 v1 v2 m) := by
  subst ev1
  subst ev2
  unfold L_Y_tellCookies_15 NL_Y_tellCookies_15
  refine rf_it (I := (fun a b => RI a.1 b.1 ∧ RC w y a.2 n b.2)) (fun s t h => ?_) ⟨⟨rfl, rv2⟩, hR⟩
  exact fb_Y_tellCookies_15 hy rfl rv1 h.1.1 h.1.2 h.2
theorem NL_Y_tellCookies_15_eq (v1 : Int) (v2 : Int) (m : YS) : NL_Y_tellCookies_15 v1 v2 m = itc (nb_Y_tellCookies_15 v1 v2 m) (fun s => NL_Y_tellCookies_15 v1 s.1 s.2) := it_eq2 (fun s : Int × YS => nb_Y_tellCookies_15 v1 s.1 s.2) (v2, m)
noncomputable def N_Y_tellCookies (m : YS) : Option (YS) :=
  st (yw m 37 0 0) fun m2 =>
  (N_Y_siteEnd 4 m2).bind fun z6 =>
  ck (z6 - 2) <|
  (NL_Y_tellCookies_15 (z6 - 2) 0 m2).bind <| fun m10 =>
  some m10
theorem f_Y_tellCookies {w y : Prop} {g : g_S} {n : NS} {m : YS} (hy : y) (hR : RC w y g n m) : Rf (fun a b => RC w y a n b) (M_Y_tellCookies 1838 g) (N_Y_tellCookies m) := by
  unfold M_Y_tellCookies N_Y_tellCookies
  refine y_pI hR hy yk37 ⟨yt37, yz37⟩ (e_n 0) (show inR 0 by decide) (fun g4 m2 hR3 => ?_)
  refine v_c (y_gt hR3 hy) ?_
  refine rf_bind (f_Y_siteEnd hy (e_n 4) (show inR 4 by decide) hR3) (fun a8 z6 h => ?_)
  obtain ⟨rfl, r7⟩ := h
  refine rf_ck (fun h9 => ?_)
  refine rf_bind (fL_Y_tellCookies_15 hy (e_sub rfl (e_n 2)) h9 (e_n 0) (show inR 0 by decide) hR3) (fun a11 m10 h => ?_)
  have hR12 : RC w y a11 n m10 := h
  exact rf_ok (by exact hR12)
