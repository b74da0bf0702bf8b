/-! methods as functions, group 7 -/
noncomputable def M_H_isInput (v0 : Nat) (v1 : Int32) (g : g_S) : Option Int32 :=
  (vc g 111 v0 (M_H_isNode v0 v1 g)).bind fun z1 =>
  if z1 = 0 then
    some 0
  else
    (rQ g 111 v0 2).bind fun z2 =>
    (rQ g 110 z2 0).bind fun z3 =>
    (aQ g 5 z3 v1).bind fun z4 =>
    (rI g 107 z4 0).bind fun z5 =>
    if z5 = 13 then
      some 1
    else
      some 0
set_option maxRecDepth 20000 in
theorem d_H_isInput {L : Nat} {xs : Nat → Int32} {Q : Option Value → ab_H → Prop} {v0 : Nat} {v1 : Int32} {g : g_S} {out : Int32} (e : M_H_isInput v0 v1 g = some out) (c : Q (some (.int out)) (hp g)) : mw (ab_ext L xs) J_H_isInput [.ref v0, .int v1] (hp g) Q := by
  unfold M_H_isInput at e
  refine wp_p (j := J_H_isInput) 2 (pc' := 2) (lv' := [(0, .ref v0), (1, .int v1)]) (st' := [.int v1, .ref v0]) rfl ?_
  refine x_cv1 (As := [.int v1]) (rest := []) Value.int e rfl rfl rfl rfl rfl rfl (fun h => d_H_isNode h ⟨rfl, rfl⟩) (fun z1 e => ?_)
  refine z_eq e rfl (fun e => ?_) (fun e => ?_)
  · refine wp_p (j := J_H_isInput) 1 (pc' := 30) (lv' := [(0, .ref v0), (1, .int v1)]) (st' := [.int 0]) rfl ?_
    have e := Option.some.inj e; subst e; exact wp_iret (ty := .boolean) rfl rfl (by decide) c
  · refine wp_p (j := J_H_isInput) 1 (pc' := 9) (lv' := [(0, .ref v0), (1, .int v1)]) (st' := [.ref v0]) rfl ?_
    refine x_gQ e rfl rfl fd_11_2 rfl (fun z2 e => ?_)
    refine x_gQ e rfl rfl fd_10_0 rfl (fun z3 e => ?_)
    refine wp_p (j := J_H_isInput) 1 (pc' := 16) (lv' := [(0, .ref v0), (1, .int v1)]) (st' := [.int v1, .ref z3]) rfl ?_
    refine x_aQ e rfl rfl rfl (fun z4 e => ?_)
    refine x_gI e rfl rfl fd_7_0 rfl (fun z5 e => ?_)
    refine wp_p (j := J_H_isInput) 1 (pc' := 22) (lv' := [(0, .ref v0), (1, .int v1)]) (st' := [.int 13, .int z5]) rfl ?_
    refine x_ne e rfl (fun e => ?_) (fun e => ?_)
    · refine wp_p (j := J_H_isInput) 2 (pc' := 30) (lv' := [(0, .ref v0), (1, .int v1)]) (st' := [.int 1]) rfl ?_
      have e := Option.some.inj e; subst e; exact wp_iret (ty := .boolean) rfl rfl (by decide) c
    · refine wp_p (j := J_H_isInput) 1 (pc' := 30) (lv' := [(0, .ref v0), (1, .int v1)]) (st' := [.int 0]) rfl ?_
      have e := Option.some.inj e; subst e; exact wp_iret (ty := .boolean) rfl rfl (by decide) c
noncomputable def M_H_value (v0 : Nat) (v1 : Int32) (g : g_S) : Option (Int32 × g_S) :=
  (vc g 111 v0 (M_H_isInput v0 v1 g)).bind fun z1 =>
  if z1 = 0 then
    some ((-1), g)
  else
    (rQ g 111 v0 2).bind fun z2 =>
    (rQ g 110 z2 0).bind fun z3 =>
    (aQ g 5 z3 v1).bind fun z4 =>
    (rQ g 107 z4 11).bind fun z5 =>
    c2 (vc g 111 v0 (M_H_showBytes v0 z5 g)) fun z6 g7 =>
    some (z6, g7)
set_option maxRecDepth 20000 in
theorem d_H_value {L : Nat} {xs : Nat → Int32} {Q : Option Value → ab_H → Prop} {v0 : Nat} {v1 : Int32} {g : g_S} {out : Int32 × g_S} (e : M_H_value v0 v1 g = some out) (c : Q (some (.int out.1)) (hp out.2)) : mw (ab_ext L xs) J_H_value [.ref v0, .int v1] (hp g) Q := by
  unfold M_H_value at e
  refine wp_p (j := J_H_value) 2 (pc' := 2) (lv' := [(0, .ref v0), (1, .int v1)]) (st' := [.int v1, .ref v0]) rfl ?_
  refine x_cv1 (As := [.int v1]) (rest := []) Value.int e rfl rfl rfl rfl rfl rfl (fun h => d_H_isInput h ⟨rfl, rfl⟩) (fun z1 e => ?_)
  refine z_eq e rfl (fun e => ?_) (fun e => ?_)
  · refine wp_p (j := J_H_value) 1 (pc' := 28) (lv' := [(0, .ref v0), (1, .int v1)]) (st' := [.int (-1)]) rfl ?_
    have e := Option.some.inj e; subst e; exact wp_iret (ty := .int) rfl rfl rfl c
  · refine wp_p (j := J_H_value) 2 (pc' := 10) (lv' := [(0, .ref v0), (1, .int v1)]) (st' := [.ref v0, .ref v0]) rfl ?_
    refine x_gQ e rfl rfl fd_11_2 rfl (fun z2 e => ?_)
    refine x_gQ e rfl rfl fd_10_0 rfl (fun z3 e => ?_)
    refine wp_p (j := J_H_value) 1 (pc' := 17) (lv' := [(0, .ref v0), (1, .int v1)]) (st' := [.int v1, .ref z3, .ref v0]) rfl ?_
    refine x_aQ e rfl rfl rfl (fun z4 e => ?_)
    refine x_gQ e rfl rfl fd_7_11 rfl (fun z5 e => ?_)
    refine x_cv2 (As := [.ref z5]) (rest := []) Value.int e rfl rfl rfl rfl rfl rfl (fun h => d_H_showBytes h ⟨rfl, rfl⟩) (fun z6 g7 e => ?_)
    refine wp_p (j := J_H_value) 1 (pc' := 28) (lv' := [(0, .ref v0), (1, .int v1)]) (st' := [.int z6]) rfl ?_
    have e := Option.some.inj e; subst e; exact wp_iret (ty := .int) rfl rfl rfl c
noncomputable def M_H_checked (v0 : Nat) (v1 : Int32) (g : g_S) : Option Int32 :=
  (vc g 111 v0 (M_H_isInput v0 v1 g)).bind fun z1 =>
  if z1 = 0 then
    some (-1)
  else
    (rQ g 111 v0 2).bind fun z2 =>
    (rQ g 110 z2 0).bind fun z3 =>
    (aQ g 5 z3 v1).bind fun z4 =>
    (rI g 107 z4 16).bind fun z5 =>
    if z5 = 0 then
      some 0
    else
      some 1
set_option maxRecDepth 20000 in
theorem d_H_checked {L : Nat} {xs : Nat → Int32} {Q : Option Value → ab_H → Prop} {v0 : Nat} {v1 : Int32} {g : g_S} {out : Int32} (e : M_H_checked v0 v1 g = some out) (c : Q (some (.int out)) (hp g)) : mw (ab_ext L xs) J_H_checked [.ref v0, .int v1] (hp g) Q := by
  unfold M_H_checked at e
  refine wp_p (j := J_H_checked) 2 (pc' := 2) (lv' := [(0, .ref v0), (1, .int v1)]) (st' := [.int v1, .ref v0]) rfl ?_
  refine x_cv1 (As := [.int v1]) (rest := []) Value.int e rfl rfl rfl rfl rfl rfl (fun h => d_H_isInput h ⟨rfl, rfl⟩) (fun z1 e => ?_)
  refine z_ne e rfl (fun e => ?_) (fun e => ?_)
  · refine wp_p (j := J_H_checked) 1 (pc' := 9) (lv' := [(0, .ref v0), (1, .int v1)]) (st' := [.int (-1)]) rfl ?_
    have e := Option.some.inj e; subst e; exact wp_iret (ty := .int) rfl rfl rfl c
  · refine wp_p (j := J_H_checked) 1 (pc' := 11) (lv' := [(0, .ref v0), (1, .int v1)]) (st' := [.ref v0]) rfl ?_
    refine x_gQ e rfl rfl fd_11_2 rfl (fun z2 e => ?_)
    refine x_gQ e rfl rfl fd_10_0 rfl (fun z3 e => ?_)
    refine wp_p (j := J_H_checked) 1 (pc' := 18) (lv' := [(0, .ref v0), (1, .int v1)]) (st' := [.int v1, .ref z3]) rfl ?_
    refine x_aQ e rfl rfl rfl (fun z4 e => ?_)
    refine x_gI e rfl rfl fd_7_16 rfl (fun z5 e => ?_)
    refine z_eq e rfl (fun e => ?_) (fun e => ?_)
    · refine wp_p (j := J_H_checked) 1 (pc' := 30) (lv' := [(0, .ref v0), (1, .int v1)]) (st' := [.int 0]) rfl ?_
      have e := Option.some.inj e; subst e; exact wp_iret (ty := .int) rfl rfl rfl c
    · refine wp_p (j := J_H_checked) 2 (pc' := 30) (lv' := [(0, .ref v0), (1, .int v1)]) (st' := [.int 1]) rfl ?_
      have e := Option.some.inj e; subst e; exact wp_iret (ty := .int) rfl rfl rfl c
noncomputable def M_H_countOfNet (v0 : Nat) (v1 : Int32) (g : g_S) : Option Int32 :=
  if v1 = 2 then
    (rQ g 111 v0 3).bind fun z2 =>
    (rI g 106 z2 2).bind fun z3 =>
    some z3
  else if v1 = 3 then
    (rQ g 111 v0 3).bind fun z5 =>
    (rI g 106 z5 6).bind fun z6 =>
    some z6
  else if v1 = 4 then
    (rQ g 111 v0 3).bind fun z8 =>
    (rI g 106 z8 4).bind fun z9 =>
    some z9
  else if v1 = 5 then
    (rQ g 111 v0 3).bind fun z11 =>
    (rI g 106 z11 9).bind fun z12 =>
    some z12
  else if v1 = 6 then
    (rQ g 111 v0 3).bind fun z14 =>
    (rI g 106 z14 12).bind fun z15 =>
    some z15
  else if v1 = 7 then
    (rQ g 111 v0 3).bind fun z17 =>
    (rI g 106 z17 18).bind fun z18 =>
    some z18
  else if v1 = 8 then
    (rQ g 111 v0 3).bind fun z20 =>
    (rI g 106 z20 19).bind fun z21 =>
    some z21
  else if v1 = 9 then
    some (-1)
  else if v1 = 10 then
    some (-1)
  else if v1 = 11 then
    some (-1)
  else if v1 = 12 then
    some (-1)
  else if v1 = 13 then
    some (-1)
  else if v1 = 14 then
    some (-1)
  else if v1 = 15 then
    (rQ g 111 v0 3).bind fun z29 =>
    (rI g 106 z29 8).bind fun z30 =>
    some z30
  else
    some (-1)
set_option maxRecDepth 20000 in
theorem d_H_countOfNet {L : Nat} {xs : Nat → Int32} {Q : Option Value → ab_H → Prop} {v0 : Nat} {v1 : Int32} {g : g_S} {out : Int32} (e : M_H_countOfNet v0 v1 g = some out) (c : Q (some (.int out)) (hp g)) : mw (ab_ext L xs) J_H_countOfNet [.ref v0, .int v1] (hp g) Q := by
  unfold M_H_countOfNet at e
  refine wp_p (j := J_H_countOfNet) 1 (pc' := 1) (lv' := [(0, .ref v0), (1, .int v1)]) (st' := [.int v1]) rfl ?_
  refine x_if e (fun h1 e => ?_) (fun h1 e => ?_)
  · refine x_sw (cst := 2) (pc' := 72) (rest := []) h1 rfl rfl rfl ?_
    refine wp_p (j := J_H_countOfNet) 1 (pc' := 73) (lv' := [(0, .ref v0), (1, .int v1)]) (st' := [.ref v0]) rfl ?_
    refine x_gQ e rfl rfl fd_11_3 rfl (fun z2 e => ?_)
    refine x_gI e rfl rfl fd_6_2 rfl (fun z3 e => ?_)
    have e := Option.some.inj e; subst e; exact wp_iret (ty := .int) rfl rfl rfl c
  refine x_if e (fun h4 e => ?_) (fun h4 e => ?_)
  · refine x_sw (cst := 3) (pc' := 80) (rest := []) h4 rfl rfl rfl ?_
    refine wp_p (j := J_H_countOfNet) 1 (pc' := 81) (lv' := [(0, .ref v0), (1, .int v1)]) (st' := [.ref v0]) rfl ?_
    refine x_gQ e rfl rfl fd_11_3 rfl (fun z5 e => ?_)
    refine x_gI e rfl rfl fd_6_6 rfl (fun z6 e => ?_)
    have e := Option.some.inj e; subst e; exact wp_iret (ty := .int) rfl rfl rfl c
  refine x_if e (fun h7 e => ?_) (fun h7 e => ?_)
  · refine x_sw (cst := 4) (pc' := 88) (rest := []) h7 rfl rfl rfl ?_
    refine wp_p (j := J_H_countOfNet) 1 (pc' := 89) (lv' := [(0, .ref v0), (1, .int v1)]) (st' := [.ref v0]) rfl ?_
    refine x_gQ e rfl rfl fd_11_3 rfl (fun z8 e => ?_)
    refine x_gI e rfl rfl fd_6_4 rfl (fun z9 e => ?_)
    have e := Option.some.inj e; subst e; exact wp_iret (ty := .int) rfl rfl rfl c
  refine x_if e (fun h10 e => ?_) (fun h10 e => ?_)
  · refine x_sw (cst := 5) (pc' := 96) (rest := []) h10 rfl rfl rfl ?_
    refine wp_p (j := J_H_countOfNet) 1 (pc' := 97) (lv' := [(0, .ref v0), (1, .int v1)]) (st' := [.ref v0]) rfl ?_
    refine x_gQ e rfl rfl fd_11_3 rfl (fun z11 e => ?_)
    refine x_gI e rfl rfl fd_6_9 rfl (fun z12 e => ?_)
    have e := Option.some.inj e; subst e; exact wp_iret (ty := .int) rfl rfl rfl c
  refine x_if e (fun h13 e => ?_) (fun h13 e => ?_)
  · refine x_sw (cst := 6) (pc' := 104) (rest := []) h13 rfl rfl rfl ?_
    refine wp_p (j := J_H_countOfNet) 1 (pc' := 105) (lv' := [(0, .ref v0), (1, .int v1)]) (st' := [.ref v0]) rfl ?_
    refine x_gQ e rfl rfl fd_11_3 rfl (fun z14 e => ?_)
    refine x_gI e rfl rfl fd_6_12 rfl (fun z15 e => ?_)
    have e := Option.some.inj e; subst e; exact wp_iret (ty := .int) rfl rfl rfl c
  refine x_if e (fun h16 e => ?_) (fun h16 e => ?_)
  · refine x_sw (cst := 7) (pc' := 112) (rest := []) h16 rfl rfl rfl ?_
    refine wp_p (j := J_H_countOfNet) 1 (pc' := 113) (lv' := [(0, .ref v0), (1, .int v1)]) (st' := [.ref v0]) rfl ?_
    refine x_gQ e rfl rfl fd_11_3 rfl (fun z17 e => ?_)
    refine x_gI e rfl rfl fd_6_18 rfl (fun z18 e => ?_)
    have e := Option.some.inj e; subst e; exact wp_iret (ty := .int) rfl rfl rfl c
  refine x_if e (fun h19 e => ?_) (fun h19 e => ?_)
  · refine x_sw (cst := 8) (pc' := 120) (rest := []) h19 rfl rfl rfl ?_
    refine wp_p (j := J_H_countOfNet) 1 (pc' := 121) (lv' := [(0, .ref v0), (1, .int v1)]) (st' := [.ref v0]) rfl ?_
    refine x_gQ e rfl rfl fd_11_3 rfl (fun z20 e => ?_)
    refine x_gI e rfl rfl fd_6_19 rfl (fun z21 e => ?_)
    have e := Option.some.inj e; subst e; exact wp_iret (ty := .int) rfl rfl rfl c
  refine x_if e (fun h22 e => ?_) (fun h22 e => ?_)
  · refine x_sw (cst := 9) (pc' := 136) (rest := []) h22 rfl rfl rfl ?_
    refine wp_p (j := J_H_countOfNet) 1 (pc' := 137) (lv' := [(0, .ref v0), (1, .int v1)]) (st' := [.int (-1)]) rfl ?_
    have e := Option.some.inj e; subst e; exact wp_iret (ty := .int) rfl rfl rfl c
  refine x_if e (fun h23 e => ?_) (fun h23 e => ?_)
  · refine x_sw (cst := 10) (pc' := 136) (rest := []) h23 rfl rfl rfl ?_
    refine wp_p (j := J_H_countOfNet) 1 (pc' := 137) (lv' := [(0, .ref v0), (1, .int v1)]) (st' := [.int (-1)]) rfl ?_
    have e := Option.some.inj e; subst e; exact wp_iret (ty := .int) rfl rfl rfl c
  refine x_if e (fun h24 e => ?_) (fun h24 e => ?_)
  · refine x_sw (cst := 11) (pc' := 136) (rest := []) h24 rfl rfl rfl ?_
    refine wp_p (j := J_H_countOfNet) 1 (pc' := 137) (lv' := [(0, .ref v0), (1, .int v1)]) (st' := [.int (-1)]) rfl ?_
    have e := Option.some.inj e; subst e; exact wp_iret (ty := .int) rfl rfl rfl c
  refine x_if e (fun h25 e => ?_) (fun h25 e => ?_)
  · refine x_sw (cst := 12) (pc' := 136) (rest := []) h25 rfl rfl rfl ?_
    refine wp_p (j := J_H_countOfNet) 1 (pc' := 137) (lv' := [(0, .ref v0), (1, .int v1)]) (st' := [.int (-1)]) rfl ?_
    have e := Option.some.inj e; subst e; exact wp_iret (ty := .int) rfl rfl rfl c
  refine x_if e (fun h26 e => ?_) (fun h26 e => ?_)
  · refine x_sw (cst := 13) (pc' := 136) (rest := []) h26 rfl rfl rfl ?_
    refine wp_p (j := J_H_countOfNet) 1 (pc' := 137) (lv' := [(0, .ref v0), (1, .int v1)]) (st' := [.int (-1)]) rfl ?_
    have e := Option.some.inj e; subst e; exact wp_iret (ty := .int) rfl rfl rfl c
  refine x_if e (fun h27 e => ?_) (fun h27 e => ?_)
  · refine x_sw (cst := 14) (pc' := 136) (rest := []) h27 rfl rfl rfl ?_
    refine wp_p (j := J_H_countOfNet) 1 (pc' := 137) (lv' := [(0, .ref v0), (1, .int v1)]) (st' := [.int (-1)]) rfl ?_
    have e := Option.some.inj e; subst e; exact wp_iret (ty := .int) rfl rfl rfl c
  refine x_if e (fun h28 e => ?_) (fun h28 e => ?_)
  · refine x_sw (cst := 15) (pc' := 128) (rest := []) h28 rfl rfl rfl ?_
    refine wp_p (j := J_H_countOfNet) 1 (pc' := 129) (lv' := [(0, .ref v0), (1, .int v1)]) (st' := [.ref v0]) rfl ?_
    refine x_gQ e rfl rfl fd_11_3 rfl (fun z29 e => ?_)
    refine x_gI e rfl rfl fd_6_8 rfl (fun z30 e => ?_)
    have e := Option.some.inj e; subst e; exact wp_iret (ty := .int) rfl rfl rfl c
  refine wp_b (pc' := 136) (st' := []) rfl rfl ((ts_d (x := v1) (lo := 2) 14 rfl ⟨h1, h4, h7, h10, h13, h16, h19, h22, h23, h24, h25, h26, h27, h28, trivial⟩).trans rfl) ?_
  refine wp_p (j := J_H_countOfNet) 1 (pc' := 137) (lv' := [(0, .ref v0), (1, .int v1)]) (st' := [.int (-1)]) rfl ?_
  have e := Option.some.inj e; subst e; exact wp_iret (ty := .int) rfl rfl rfl c
noncomputable def k_H_count_184 (v0 : Nat) (v1 : Int32) (g : g_S) : Option (Int32 × g_S) :=
  (vc g 111 v0 (M_H_countOfNet v0 v1 g)).bind fun z1 =>
  some (z1, g)
set_option maxRecDepth 20000 in
theorem x_H_count_184 {L : Nat} {xs : Nat → Int32} {Q : Option Value → ab_H → Prop} {v0 : Nat} {v1 : Int32} {g : g_S} {out : Int32 × g_S} (e : k_H_count_184 v0 v1 g = some out) (c : Q (some (.int out.1)) (hp out.2)) : wp (ab_ext L xs) J_H_count 184 [(0, .ref v0), (1, .int v1)] [] (hp g) Q := by
  unfold k_H_count_184 at e
  refine wp_p (j := J_H_count) 2 (pc' := 186) (lv' := [(0, .ref v0), (1, .int v1)]) (st' := [.int v1, .ref v0]) rfl ?_
  refine x_cv1 (As := [.int v1]) (rest := []) Value.int e rfl rfl rfl rfl rfl rfl (fun h => d_H_countOfNet h ⟨rfl, rfl⟩) (fun z1 e => ?_)
  have e := Option.some.inj e; subst e; exact wp_iret (ty := .int) rfl rfl rfl c
noncomputable def M_H_count (v0 : Nat) (v1 : Int32) (g : g_S) : Option (Int32 × g_S) :=
  if v1 = 0 then
    (rQ g 111 v0 2).bind fun z2 =>
    (rI g 110 z2 5).bind fun z3 =>
    some (z3, g)
  else if v1 = 1 then
    (rQ g 111 v0 4).bind fun z5 =>
    (rI g 108 z5 3).bind fun z6 =>
    some (z6, g)
  else if v1 = 2 then
    k_H_count_184 v0 v1 g
  else if v1 = 3 then
    k_H_count_184 v0 v1 g
  else if v1 = 4 then
    k_H_count_184 v0 v1 g
  else if v1 = 5 then
    k_H_count_184 v0 v1 g
  else if v1 = 6 then
    k_H_count_184 v0 v1 g
  else if v1 = 7 then
    k_H_count_184 v0 v1 g
  else if v1 = 8 then
    k_H_count_184 v0 v1 g
  else if v1 = 9 then
    (rQ g 111 v0 7).bind fun z15 =>
    (rI g 100 z15 5).bind fun z16 =>
    some (z16, g)
  else if v1 = 10 then
    (rQ g 111 v0 7).bind fun z18 =>
    (rI g 100 z18 10).bind fun z19 =>
    some (z19, g)
  else if v1 = 11 then
    (rQ g 111 v0 7).bind fun z21 =>
    (rI g 100 z21 8).bind fun z22 =>
    some (z22, g)
  else if v1 = 12 then
    (rQ g 111 v0 7).bind fun z24 =>
    (rI g 100 z24 7).bind fun z25 =>
    some (z25, g)
  else if v1 = 13 then
    (rQ g 111 v0 2).bind fun z27 =>
    (rQ g 111 v0 7).bind fun z28 =>
    (rL g 100 z28 6).bind fun z29 =>
    (vc g 110 z27 (M_Tree_alive z27 z29 g)).bind fun z30 =>
    some (z30, g)
  else if v1 = 14 then
    (rQ g 111 v0 5).bind fun z32 =>
    (vc g 109 z32 (M_Sheet_refresh z32 g)).bind fun g33 =>
    (rQ g33 111 v0 6).bind fun z34 =>
    (vc g33 105 z34 (M_Layout_refresh z34 g33)).bind fun g35 =>
    (rQ g35 111 v0 6).bind fun z36 =>
    (vc g35 105 z36 (M_Layout_pictureHeight z36 g35)).bind fun z37 =>
    some (z37, g35)
  else if v1 = 15 then
    k_H_count_184 v0 v1 g
  else if v1 = 16 then
    (rQ g 111 v0 5).bind fun z40 =>
    (vc g 109 z40 (M_Sheet_refresh z40 g)).bind fun g41 =>
    (rQ g41 111 v0 5).bind fun z42 =>
    (rI g41 109 z42 13).bind fun z43 =>
    some (z43, g41)
  else
    k_H_count_184 v0 v1 g
set_option maxRecDepth 20000 in
theorem d_H_count {L : Nat} {xs : Nat → Int32} {Q : Option Value → ab_H → Prop} {v0 : Nat} {v1 : Int32} {g : g_S} {out : Int32 × g_S} (e : M_H_count v0 v1 g = some out) (c : Q (some (.int out.1)) (hp out.2)) : mw (ab_ext L xs) J_H_count [.ref v0, .int v1] (hp g) Q := by
  unfold M_H_count at e
  refine wp_p (j := J_H_count) 1 (pc' := 1) (lv' := [(0, .ref v0), (1, .int v1)]) (st' := [.int v1]) rfl ?_
  refine x_if e (fun h1 e => ?_) (fun h1 e => ?_)
  · refine x_sw (cst := 0) (pc' := 84) (rest := []) h1 rfl rfl rfl ?_
    refine wp_p (j := J_H_count) 1 (pc' := 85) (lv' := [(0, .ref v0), (1, .int v1)]) (st' := [.ref v0]) rfl ?_
    refine x_gQ e rfl rfl fd_11_2 rfl (fun z2 e => ?_)
    refine x_gI e rfl rfl fd_10_5 rfl (fun z3 e => ?_)
    have e := Option.some.inj e; subst e; exact wp_iret (ty := .int) rfl rfl rfl c
  refine x_if e (fun h4 e => ?_) (fun h4 e => ?_)
  · refine x_sw (cst := 1) (pc' := 92) (rest := []) h4 rfl rfl rfl ?_
    refine wp_p (j := J_H_count) 1 (pc' := 93) (lv' := [(0, .ref v0), (1, .int v1)]) (st' := [.ref v0]) rfl ?_
    refine x_gQ e rfl rfl fd_11_4 rfl (fun z5 e => ?_)
    refine x_gI e rfl rfl fd_8_3 rfl (fun z6 e => ?_)
    have e := Option.some.inj e; subst e; exact wp_iret (ty := .int) rfl rfl rfl c
  refine x_if e (fun h7 e => ?_) (fun h7 e => ?_)
  · refine x_sw (cst := 2) (pc' := 184) (rest := []) h7 rfl rfl rfl ?_
    exact wp_lv (lv' := [(0, .ref v0), (1, .int v1)]) rfl ⟨rfl, rfl, trivial⟩ (x_H_count_184 e c)
  refine x_if e (fun h8 e => ?_) (fun h8 e => ?_)
  · refine x_sw (cst := 3) (pc' := 184) (rest := []) h8 rfl rfl rfl ?_
    exact wp_lv (lv' := [(0, .ref v0), (1, .int v1)]) rfl ⟨rfl, rfl, trivial⟩ (x_H_count_184 e c)
  refine x_if e (fun h9 e => ?_) (fun h9 e => ?_)
  · refine x_sw (cst := 4) (pc' := 184) (rest := []) h9 rfl rfl rfl ?_
    exact wp_lv (lv' := [(0, .ref v0), (1, .int v1)]) rfl ⟨rfl, rfl, trivial⟩ (x_H_count_184 e c)
  refine x_if e (fun h10 e => ?_) (fun h10 e => ?_)
  · refine x_sw (cst := 5) (pc' := 184) (rest := []) h10 rfl rfl rfl ?_
    exact wp_lv (lv' := [(0, .ref v0), (1, .int v1)]) rfl ⟨rfl, rfl, trivial⟩ (x_H_count_184 e c)
  refine x_if e (fun h11 e => ?_) (fun h11 e => ?_)
  · refine x_sw (cst := 6) (pc' := 184) (rest := []) h11 rfl rfl rfl ?_
    exact wp_lv (lv' := [(0, .ref v0), (1, .int v1)]) rfl ⟨rfl, rfl, trivial⟩ (x_H_count_184 e c)
  refine x_if e (fun h12 e => ?_) (fun h12 e => ?_)
  · refine x_sw (cst := 7) (pc' := 184) (rest := []) h12 rfl rfl rfl ?_
    exact wp_lv (lv' := [(0, .ref v0), (1, .int v1)]) rfl ⟨rfl, rfl, trivial⟩ (x_H_count_184 e c)
  refine x_if e (fun h13 e => ?_) (fun h13 e => ?_)
  · refine x_sw (cst := 8) (pc' := 184) (rest := []) h13 rfl rfl rfl ?_
    exact wp_lv (lv' := [(0, .ref v0), (1, .int v1)]) rfl ⟨rfl, rfl, trivial⟩ (x_H_count_184 e c)
  refine x_if e (fun h14 e => ?_) (fun h14 e => ?_)
  · refine x_sw (cst := 9) (pc' := 100) (rest := []) h14 rfl rfl rfl ?_
    refine wp_p (j := J_H_count) 1 (pc' := 101) (lv' := [(0, .ref v0), (1, .int v1)]) (st' := [.ref v0]) rfl ?_
    refine x_gQ e rfl rfl fd_11_7 rfl (fun z15 e => ?_)
    refine x_gI e rfl rfl fd_0_5 rfl (fun z16 e => ?_)
    have e := Option.some.inj e; subst e; exact wp_iret (ty := .int) rfl rfl rfl c
  refine x_if e (fun h17 e => ?_) (fun h17 e => ?_)
  · refine x_sw (cst := 10) (pc' := 108) (rest := []) h17 rfl rfl rfl ?_
    refine wp_p (j := J_H_count) 1 (pc' := 109) (lv' := [(0, .ref v0), (1, .int v1)]) (st' := [.ref v0]) rfl ?_
    refine x_gQ e rfl rfl fd_11_7 rfl (fun z18 e => ?_)
    refine x_gI e rfl rfl fd_0_10 rfl (fun z19 e => ?_)
    have e := Option.some.inj e; subst e; exact wp_iret (ty := .int) rfl rfl rfl c
  refine x_if e (fun h20 e => ?_) (fun h20 e => ?_)
  · refine x_sw (cst := 11) (pc' := 116) (rest := []) h20 rfl rfl rfl ?_
    refine wp_p (j := J_H_count) 1 (pc' := 117) (lv' := [(0, .ref v0), (1, .int v1)]) (st' := [.ref v0]) rfl ?_
    refine x_gQ e rfl rfl fd_11_7 rfl (fun z21 e => ?_)
    refine x_gI e rfl rfl fd_0_8 rfl (fun z22 e => ?_)
    have e := Option.some.inj e; subst e; exact wp_iret (ty := .int) rfl rfl rfl c
  refine x_if e (fun h23 e => ?_) (fun h23 e => ?_)
  · refine x_sw (cst := 12) (pc' := 124) (rest := []) h23 rfl rfl rfl ?_
    refine wp_p (j := J_H_count) 1 (pc' := 125) (lv' := [(0, .ref v0), (1, .int v1)]) (st' := [.ref v0]) rfl ?_
    refine x_gQ e rfl rfl fd_11_7 rfl (fun z24 e => ?_)
    refine x_gI e rfl rfl fd_0_7 rfl (fun z25 e => ?_)
    have e := Option.some.inj e; subst e; exact wp_iret (ty := .int) rfl rfl rfl c
  refine x_if e (fun h26 e => ?_) (fun h26 e => ?_)
  · refine x_sw (cst := 13) (pc' := 132) (rest := []) h26 rfl rfl rfl ?_
    refine wp_p (j := J_H_count) 1 (pc' := 133) (lv' := [(0, .ref v0), (1, .int v1)]) (st' := [.ref v0]) rfl ?_
    refine x_gQ e rfl rfl fd_11_2 rfl (fun z27 e => ?_)
    refine wp_p (j := J_H_count) 1 (pc' := 137) (lv' := [(0, .ref v0), (1, .int v1)]) (st' := [.ref v0, .ref z27]) rfl ?_
    refine x_gQ e rfl rfl fd_11_7 rfl (fun z28 e => ?_)
    refine x_gL e rfl rfl fd_0_6 rfl (fun z29 e => ?_)
    refine x_cv1 (As := [.long z29]) (rest := []) Value.int e rfl rfl rfl rfl rfl rfl (fun h => d_Tree_alive h ⟨rfl, rfl⟩) (fun z30 e => ?_)
    have e := Option.some.inj e; subst e; exact wp_iret (ty := .int) rfl rfl rfl c
  refine x_if e (fun h31 e => ?_) (fun h31 e => ?_)
  · refine x_sw (cst := 14) (pc' := 147) (rest := []) h31 rfl rfl rfl ?_
    refine wp_p (j := J_H_count) 1 (pc' := 148) (lv' := [(0, .ref v0), (1, .int v1)]) (st' := [.ref v0]) rfl ?_
    refine x_gQ e rfl rfl fd_11_5 rfl (fun z32 e => ?_)
    refine x_cv0 (As := []) (rest := []) e rfl rfl rfl rfl rfl rfl (fun h => d_Sheet_refresh h ⟨rfl, rfl⟩) (fun g33 e => ?_)
    refine wp_p (j := J_H_count) 1 (pc' := 155) (lv' := [(0, .ref v0), (1, .int v1)]) (st' := [.ref v0]) rfl ?_
    refine x_gQ e rfl rfl fd_11_6 rfl (fun z34 e => ?_)
    refine x_cv0 (As := []) (rest := []) e rfl rfl rfl rfl rfl rfl (fun h => d_Layout_refresh h ⟨rfl, rfl⟩) (fun g35 e => ?_)
    refine wp_p (j := J_H_count) 1 (pc' := 162) (lv' := [(0, .ref v0), (1, .int v1)]) (st' := [.ref v0]) rfl ?_
    refine x_gQ e rfl rfl fd_11_6 rfl (fun z36 e => ?_)
    refine x_cv1 (As := []) (rest := []) Value.int e rfl rfl rfl rfl rfl rfl (fun h => d_Layout_pictureHeight h ⟨rfl, rfl⟩) (fun z37 e => ?_)
    have e := Option.some.inj e; subst e; exact wp_iret (ty := .int) rfl rfl rfl c
  refine x_if e (fun h38 e => ?_) (fun h38 e => ?_)
  · refine x_sw (cst := 15) (pc' := 184) (rest := []) h38 rfl rfl rfl ?_
    exact wp_lv (lv' := [(0, .ref v0), (1, .int v1)]) rfl ⟨rfl, rfl, trivial⟩ (x_H_count_184 e c)
  refine x_if e (fun h39 e => ?_) (fun h39 e => ?_)
  · refine x_sw (cst := 16) (pc' := 169) (rest := []) h39 rfl rfl rfl ?_
    refine wp_p (j := J_H_count) 1 (pc' := 170) (lv' := [(0, .ref v0), (1, .int v1)]) (st' := [.ref v0]) rfl ?_
    refine x_gQ e rfl rfl fd_11_5 rfl (fun z40 e => ?_)
    refine x_cv0 (As := []) (rest := []) e rfl rfl rfl rfl rfl rfl (fun h => d_Sheet_refresh h ⟨rfl, rfl⟩) (fun g41 e => ?_)
    refine wp_p (j := J_H_count) 1 (pc' := 177) (lv' := [(0, .ref v0), (1, .int v1)]) (st' := [.ref v0]) rfl ?_
    refine x_gQ e rfl rfl fd_11_5 rfl (fun z42 e => ?_)
    refine x_gI e rfl rfl fd_9_13 rfl (fun z43 e => ?_)
    have e := Option.some.inj e; subst e; exact wp_iret (ty := .int) rfl rfl rfl c
  refine wp_b (pc' := 184) (st' := []) rfl rfl ((ts_d (x := v1) (lo := 0) 17 rfl ⟨h1, h4, h7, h8, h9, h10, h11, h12, h13, h14, h17, h20, h23, h26, h31, h38, h39, trivial⟩).trans rfl) ?_
  exact wp_lv (lv' := [(0, .ref v0), (1, .int v1)]) rfl ⟨rfl, rfl, trivial⟩ (x_H_count_184 e c)
def cL_Y_take_10 (L : Nat) (xs : Nat → Int32) (Q : Option Value → ab_H → Prop) (v0 : Nat) (out : (Int32 × g_S) ⊕ (g_S)) : Prop := match out with
  | .inl s => wp (ab_ext L xs) J_Y_take 10 [(0, .ref v0), (1, .int s.1)] [] (hp s.2) Q
  | .inr s => wp (ab_ext L xs) J_Y_take 36 [(0, .ref v0)] [] (hp s) Q
noncomputable def b_Y_take_10 (v0 : Nat) (v1 : Int32) (g : g_S) : Option ((Int32 × g_S) ⊕ (g_S)) :=
  (rI g 112 v0 3).bind fun z1 =>
  if v1 < z1 then
    (rQ g 112 v0 2).bind fun z2 =>
    (rQ g 112 v0 0).bind fun z3 =>
    (aI g 1 z3 v1).bind fun z4 =>
    (sB g z2 v1 z4).bind fun g5 =>
    some (.inl (v1 + 1, g5))
  else
    some (.inr g)
set_option maxRecDepth 20000 in
theorem y_Y_take_10 {L : Nat} {xs : Nat → Int32} {Q : Option Value → ab_H → Prop} {v0 : Nat} {v1 : Int32} {g : g_S} {out : (Int32 × g_S) ⊕ (g_S)} (e : b_Y_take_10 v0 v1 g = some out) (c : cL_Y_take_10 L xs Q v0 out) : wp (ab_ext L xs) J_Y_take 10 [(0, .ref v0), (1, .int v1)] [] (hp g) Q := by
  unfold b_Y_take_10 at e
  refine wp_p (j := J_Y_take) 2 (pc' := 12) (lv' := [(0, .ref v0), (1, .int v1)]) (st' := [.ref v0, .int v1]) rfl ?_
  refine x_gI e rfl rfl fd_12_3 rfl (fun z1 e => ?_)
  refine x_ge e rfl (fun e => ?_) (fun e => ?_)
  · refine wp_p (j := J_Y_take) 1 (pc' := 19) (lv' := [(0, .ref v0), (1, .int v1)]) (st' := [.ref v0]) rfl ?_
    refine x_gQ e rfl rfl fd_12_2 rfl (fun z2 e => ?_)
    refine wp_p (j := J_Y_take) 2 (pc' := 24) (lv' := [(0, .ref v0), (1, .int v1)]) (st' := [.ref v0, .int v1, .ref z2]) rfl ?_
    refine x_gQ e rfl rfl fd_12_0 rfl (fun z3 e => ?_)
    refine wp_p (j := J_Y_take) 1 (pc' := 28) (lv' := [(0, .ref v0), (1, .int v1)]) (st' := [.int v1, .ref z3, .int v1, .ref z2]) rfl ?_
    refine x_aB e rfl (.inl rfl) rfl (fun z4 e => ?_)
    refine x_sB e rfl rfl (fun g5 e => ?_)
    refine wp_p (j := J_Y_take) 2 (pc' := 10) (lv' := [(1, .int (v1 + 1)), (0, .ref v0)]) (st' := []) rfl ?_
    have e := Option.some.inj e; subst e; exact wp_lv (lv' := [(0, .ref v0), (1, .int (v1 + 1))]) rfl ⟨rfl, rfl, trivial⟩ c
  · have e := Option.some.inj e; subst e; exact wp_lv (lv' := [(0, .ref v0)]) rfl ⟨rfl, trivial⟩ c
noncomputable def L_Y_take_10 (v0 : Nat) (v1 : Int32) (g : g_S) : Option (g_S) := it (fun s : Int32 × g_S => b_Y_take_10 v0 s.1 s.2) (v1, g)
theorem l_Y_take_10 {L : Nat} {xs : Nat → Int32} {Q : Option Value → ab_H → Prop} {v0 : Nat} {v1 : Int32} {g : g_S} {r : g_S} (e : L_Y_take_10 v0 v1 g = some r) (c : cL_Y_take_10 L xs Q v0 (.inr r)) : wp (ab_ext L xs) J_Y_take 10 [(0, .ref v0), (1, .int v1)] [] (hp g) Q :=
  it_wp (P := fun s : Int32 × g_S => wp (ab_ext L xs) J_Y_take 10 [(0, .ref v0), (1, .int s.1)] [] (hp s.2) Q) (E := fun r => cL_Y_take_10 L xs Q v0 (.inr r)) (fun s out e c => y_Y_take_10 e (by cases out <;> exact c)) e c
theorem L_Y_take_10_eq (v0 : Nat) (v1 : Int32) (g : g_S) : L_Y_take_10 v0 v1 g = itc (b_Y_take_10 v0 v1 g) (fun s => L_Y_take_10 v0 s.1 s.2) := it_eq2 (fun s : Int32 × g_S => b_Y_take_10 v0 s.1 s.2) (v1, g)
def cL_Y_take_43 (L : Nat) (xs : Nat → Int32) (Q : Option Value → ab_H → Prop) (v0 : Nat) (g : g_S) (out : (Int32) ⊕ ((Int32) ⊕ (Unit))) : Prop := match out with
  | .inl s => wp (ab_ext L xs) J_Y_take 43 [(0, .ref v0), (1, .int s)] [] (hp g) Q
  | .inr (.inl s) => wp (ab_ext L xs) J_Y_take 76 [(1, .int s)] [] (hp g) Q
  | .inr (.inr s) => wp (ab_ext L xs) J_Y_take 84 [] [] (hp g) Q
noncomputable def b_Y_take_43 (v0 : Nat) (v1 : Int32) (g : g_S) : Option ((Int32) ⊕ ((Int32) ⊕ (Unit))) :=
  (rI g 112 v0 3).bind fun z1 =>
  if v1 < z1 then
    (rQ g 112 v0 2).bind fun z2 =>
    (aI g 1 z2 v1).bind fun z3 =>
    if z3 = 10 then
      some (.inl (v1 + 1))
    else
      if z3 < 32 then
        some (.inr (.inl v1))
      else
        if 126 < z3 then
          some (.inr (.inl v1))
        else
          some (.inl (v1 + 1))
  else
    some (.inr (.inr ()))
set_option maxRecDepth 20000 in
theorem y_Y_take_43 {L : Nat} {xs : Nat → Int32} {Q : Option Value → ab_H → Prop} {v0 : Nat} {v1 : Int32} {g : g_S} {out : (Int32) ⊕ ((Int32) ⊕ (Unit))} (e : b_Y_take_43 v0 v1 g = some out) (c : cL_Y_take_43 L xs Q v0 g out) : wp (ab_ext L xs) J_Y_take 43 [(0, .ref v0), (1, .int v1)] [] (hp g) Q := by
  unfold b_Y_take_43 at e
  refine wp_p (j := J_Y_take) 2 (pc' := 45) (lv' := [(0, .ref v0), (1, .int v1)]) (st' := [.ref v0, .int v1]) rfl ?_
  refine x_gI e rfl rfl fd_12_3 rfl (fun z1 e => ?_)
  refine x_ge e rfl (fun e => ?_) (fun e => ?_)
  · refine wp_p (j := J_Y_take) 1 (pc' := 52) (lv' := [(0, .ref v0), (1, .int v1)]) (st' := [.ref v0]) rfl ?_
    refine x_gQ e rfl rfl fd_12_2 rfl (fun z2 e => ?_)
    refine wp_p (j := J_Y_take) 1 (pc' := 56) (lv' := [(0, .ref v0), (1, .int v1)]) (st' := [.int v1, .ref z2]) rfl ?_
    refine x_aB e rfl (.inl rfl) rfl (fun z3 e => ?_)
    refine wp_p (j := J_Y_take) 3 (pc' := 61) (lv' := [(2, .int z3), (0, .ref v0), (1, .int v1)]) (st' := [.int 10, .int z3]) rfl ?_
    refine x_eq e rfl (fun e => ?_) (fun e => ?_)
    · refine wp_p (j := J_Y_take) 2 (pc' := 43) (lv' := [(1, .int (v1 + 1)), (2, .int z3), (0, .ref v0)]) (st' := []) rfl ?_
      have e := Option.some.inj e; subst e; exact wp_lv (lv' := [(0, .ref v0), (1, .int (v1 + 1))]) rfl ⟨rfl, rfl, trivial⟩ c
    · refine wp_p (j := J_Y_take) 2 (pc' := 67) (lv' := [(2, .int z3), (0, .ref v0), (1, .int v1)]) (st' := [.int 32, .int z3]) rfl ?_
      refine x_lt e rfl (fun e => ?_) (fun e => ?_)
      · have e := Option.some.inj e; subst e; exact wp_lv (lv' := [(1, .int v1)]) rfl ⟨rfl, trivial⟩ c
      · refine wp_p (j := J_Y_take) 2 (pc' := 73) (lv' := [(2, .int z3), (0, .ref v0), (1, .int v1)]) (st' := [.int 126, .int z3]) rfl ?_
        refine x_le e rfl (fun e => ?_) (fun e => ?_)
        · have e := Option.some.inj e; subst e; exact wp_lv (lv' := [(1, .int v1)]) rfl ⟨rfl, trivial⟩ c
        · refine wp_p (j := J_Y_take) 2 (pc' := 43) (lv' := [(1, .int (v1 + 1)), (2, .int z3), (0, .ref v0)]) (st' := []) rfl ?_
          have e := Option.some.inj e; subst e; exact wp_lv (lv' := [(0, .ref v0), (1, .int (v1 + 1))]) rfl ⟨rfl, rfl, trivial⟩ c
  · have e := Option.some.inj e; subst e; exact wp_lv (lv' := []) rfl trivial c
noncomputable def L_Y_take_43 (v0 : Nat) (v1 : Int32) (g : g_S) : Option ((Int32) ⊕ (Unit)) := it (fun s : Int32 => b_Y_take_43 v0 s g) (v1)
theorem l_Y_take_43 {L : Nat} {xs : Nat → Int32} {Q : Option Value → ab_H → Prop} {v0 : Nat} {v1 : Int32} {g : g_S} {r : (Int32) ⊕ (Unit)} (e : L_Y_take_43 v0 v1 g = some r) (c : cL_Y_take_43 L xs Q v0 g (.inr r)) : wp (ab_ext L xs) J_Y_take 43 [(0, .ref v0), (1, .int v1)] [] (hp g) Q :=
  it_wp (P := fun s : Int32 => wp (ab_ext L xs) J_Y_take 43 [(0, .ref v0), (1, .int s)] [] (hp g) Q) (E := fun r => cL_Y_take_43 L xs Q v0 g (.inr r)) (fun s out e c => y_Y_take_43 e (by cases out <;> exact c)) e c
theorem L_Y_take_43_eq (v0 : Nat) (v1 : Int32) (g : g_S) : L_Y_take_43 v0 v1 g = itc (b_Y_take_43 v0 v1 g) (fun s => L_Y_take_43 v0 s g) := it_eq2 (fun s : Int32 => b_Y_take_43 v0 s g) (v1)
noncomputable def M_Y_take (v0 : Nat) (g : g_S) : Option (Int32 × g_S) :=
  (rI g 112 v0 1).bind fun z1 =>
  (wI g 112 v0 3 z1).bind fun g2 =>
  (L_Y_take_10 v0 0 g2).bind <| fun g5 =>
  (wI g5 112 v0 1 0).bind fun g6 =>
  (L_Y_take_43 v0 0 g6).bind <|
    us (fun z9 =>
    some (z9, g6))
    (fun _ =>
    some ((-1), g6))
set_option maxRecDepth 20000 in
theorem d_Y_take {L : Nat} {xs : Nat → Int32} {Q : Option Value → ab_H → Prop} {v0 : Nat} {g : g_S} {out : Int32 × g_S} (e : M_Y_take v0 g = some out) (c : Q (some (.int out.1)) (hp out.2)) : mw (ab_ext L xs) J_Y_take [.ref v0] (hp g) Q := by
  unfold M_Y_take at e
  refine wp_p (j := J_Y_take) 2 (pc' := 2) (lv' := [(0, .ref v0)]) (st' := [.ref v0, .ref v0]) rfl ?_
  refine x_gI e rfl rfl fd_12_1 rfl (fun z1 e => ?_)
  refine x_pI e rfl rfl fw_12_3 rfl (fun g2 e => ?_)
  refine wp_p (j := J_Y_take) 2 (pc' := 10) (lv' := [(1, .int 0), (0, .ref v0)]) (st' := []) rfl ?_
  obtain ⟨g5, h4, e⟩ := bd e
  refine wp_lv (lv' := [(0, .ref v0), (1, .int 0)]) rfl ⟨rfl, rfl, trivial⟩ ?_
  refine l_Y_take_10 h4 ?_
  show wp (ab_ext L xs) J_Y_take 36 [(0, .ref v0)] [] (hp g5) Q
  refine wp_p (j := J_Y_take) 2 (pc' := 38) (lv' := [(0, .ref v0)]) (st' := [.int 0, .ref v0]) rfl ?_
  refine x_pI e rfl rfl fw_12_1 rfl (fun g6 e => ?_)
  refine wp_p (j := J_Y_take) 2 (pc' := 43) (lv' := [(1, .int 0), (0, .ref v0)]) (st' := []) rfl ?_
  obtain ⟨s7, h8, e⟩ := bd e
  refine wp_lv (lv' := [(0, .ref v0), (1, .int 0)]) rfl ⟨rfl, rfl, trivial⟩ ?_
  refine l_Y_take_43 h8 ?_
  rcases s7 with z9 | _
  · replace e := (us_l e)
    show wp (ab_ext L xs) J_Y_take 76 [(1, .int z9)] [] (hp g6) Q
    refine wp_p (j := J_Y_take) 1 (pc' := 77) (lv' := [(1, .int z9)]) (st' := [.int z9]) rfl ?_
    have e := Option.some.inj e; subst e; exact wp_iret (ty := .int) rfl rfl rfl c
  · replace e := (us_r e)
    show wp (ab_ext L xs) J_Y_take 84 [] [] (hp g6) Q
    refine wp_p (j := J_Y_take) 1 (pc' := 85) (lv' := []) (st' := [.int (-1)]) rfl ?_
    have e := Option.some.inj e; subst e; exact wp_iret (ty := .int) rfl rfl rfl c
noncomputable def M_Y_wrong (v0 : Int32) (g : g_S) : Option Int32 :=
  some ((-1000) - v0)
set_option maxRecDepth 20000 in
theorem d_Y_wrong {L : Nat} {xs : Nat → Int32} {Q : Option Value → ab_H → Prop} {v0 : Int32} {g : g_S} {out : Int32} (e : M_Y_wrong v0 g = some out) (c : Q (some (.int out)) (hp g)) : mw (ab_ext L xs) J_Y_wrong [.int v0] (hp g) Q := by
  unfold M_Y_wrong at e
  refine wp_p (j := J_Y_wrong) 3 (pc' := 5) (lv' := [(0, .int v0)]) (st' := [.int ((-1000) - v0)]) rfl ?_
  have e := Option.some.inj e; subst e; exact wp_iret (ty := .int) rfl rfl rfl c
noncomputable def M_Y_isBlank (v0 : Int32) (g : g_S) : Option Int32 :=
  if v0 = 10 then
    some 1
  else
    if v0 = 32 then
      some 1
    else
      some 0
set_option maxRecDepth 20000 in
theorem d_Y_isBlank {L : Nat} {xs : Nat → Int32} {Q : Option Value → ab_H → Prop} {v0 : Int32} {g : g_S} {out : Int32} (e : M_Y_isBlank v0 g = some out) (c : Q (some (.int out)) (hp g)) : mw (ab_ext L xs) J_Y_isBlank [.int v0] (hp g) Q := by
  unfold M_Y_isBlank at e
  refine wp_p (j := J_Y_isBlank) 2 (pc' := 3) (lv' := [(0, .int v0)]) (st' := [.int 10, .int v0]) rfl ?_
  refine x_eq e rfl (fun e => ?_) (fun e => ?_)
  · refine wp_p (j := J_Y_isBlank) 2 (pc' := 17) (lv' := [(0, .int v0)]) (st' := [.int 1]) rfl ?_
    have e := Option.some.inj e; subst e; exact wp_iret (ty := .boolean) rfl rfl (by decide) c
  · refine wp_p (j := J_Y_isBlank) 2 (pc' := 9) (lv' := [(0, .int v0)]) (st' := [.int 32, .int v0]) rfl ?_
    refine x_ne e rfl (fun e => ?_) (fun e => ?_)
    · refine wp_p (j := J_Y_isBlank) 2 (pc' := 17) (lv' := [(0, .int v0)]) (st' := [.int 1]) rfl ?_
      have e := Option.some.inj e; subst e; exact wp_iret (ty := .boolean) rfl rfl (by decide) c
    · refine wp_p (j := J_Y_isBlank) 1 (pc' := 17) (lv' := [(0, .int v0)]) (st' := [.int 0]) rfl ?_
      have e := Option.some.inj e; subst e; exact wp_iret (ty := .boolean) rfl rfl (by decide) c
def cL_Y_tokenEnd_2 (L : Nat) (xs : Nat → Int32) (Q : Option Value → ab_H → Prop) (v0 : Nat) (g : g_S) (out : (Int32) ⊕ (Int32)) : Prop := match out with
  | .inl s => wp (ab_ext L xs) J_Y_tokenEnd 2 [(0, .ref v0), (2, .int s)] [] (hp g) Q
  | .inr s => wp (ab_ext L xs) J_Y_tokenEnd 28 [(2, .int s)] [] (hp g) Q
noncomputable def b_Y_tokenEnd_2 (v0 : Nat) (v2 : Int32) (g : g_S) : Option ((Int32) ⊕ (Int32)) :=
  (rI g 112 v0 3).bind fun z1 =>
  if v2 < z1 then
    (rQ g 112 v0 2).bind fun z2 =>
    (aI g 1 z2 v2).bind fun z3 =>
    (M_Y_isBlank z3 g).bind fun z4 =>
    if z4 = 0 then
      some (.inl (v2 + 1))
    else
      some (.inr v2)
  else
    some (.inr v2)
set_option maxRecDepth 20000 in
theorem y_Y_tokenEnd_2 {L : Nat} {xs : Nat → Int32} {Q : Option Value → ab_H → Prop} {v0 : Nat} {v2 : Int32} {g : g_S} {out : (Int32) ⊕ (Int32)} (e : b_Y_tokenEnd_2 v0 v2 g = some out) (c : cL_Y_tokenEnd_2 L xs Q v0 g out) : wp (ab_ext L xs) J_Y_tokenEnd 2 [(0, .ref v0), (2, .int v2)] [] (hp g) Q := by
  unfold b_Y_tokenEnd_2 at e
  refine wp_p (j := J_Y_tokenEnd) 2 (pc' := 4) (lv' := [(0, .ref v0), (2, .int v2)]) (st' := [.ref v0, .int v2]) rfl ?_
  refine x_gI e rfl rfl fd_12_3 rfl (fun z1 e => ?_)
  refine x_ge e rfl (fun e => ?_) (fun e => ?_)
  · refine wp_p (j := J_Y_tokenEnd) 1 (pc' := 11) (lv' := [(0, .ref v0), (2, .int v2)]) (st' := [.ref v0]) rfl ?_
    refine x_gQ e rfl rfl fd_12_2 rfl (fun z2 e => ?_)
    refine wp_p (j := J_Y_tokenEnd) 1 (pc' := 15) (lv' := [(0, .ref v0), (2, .int v2)]) (st' := [.int v2, .ref z2]) rfl ?_
    refine x_aB e rfl (.inl rfl) rfl (fun z3 e => ?_)
    refine x_cs1 (As := [.int z3]) (rest := []) Value.int e rfl rfl rfl rfl rfl (fun h => d_Y_isBlank h ⟨rfl, rfl⟩) (fun z4 e => ?_)
    refine z_ne e rfl (fun e => ?_) (fun e => ?_)
    · refine wp_p (j := J_Y_tokenEnd) 2 (pc' := 2) (lv' := [(2, .int (v2 + 1)), (0, .ref v0)]) (st' := []) rfl ?_
      have e := Option.some.inj e; subst e; exact wp_lv (lv' := [(0, .ref v0), (2, .int (v2 + 1))]) rfl ⟨rfl, rfl, trivial⟩ c
    · have e := Option.some.inj e; subst e; exact wp_lv (lv' := [(2, .int v2)]) rfl ⟨rfl, trivial⟩ c
  · have e := Option.some.inj e; subst e; exact wp_lv (lv' := [(2, .int v2)]) rfl ⟨rfl, trivial⟩ c
noncomputable def L_Y_tokenEnd_2 (v0 : Nat) (v2 : Int32) (g : g_S) : Option (Int32) := it (fun s : Int32 => b_Y_tokenEnd_2 v0 s g) (v2)
theorem l_Y_tokenEnd_2 {L : Nat} {xs : Nat → Int32} {Q : Option Value → ab_H → Prop} {v0 : Nat} {v2 : Int32} {g : g_S} {r : Int32} (e : L_Y_tokenEnd_2 v0 v2 g = some r) (c : cL_Y_tokenEnd_2 L xs Q v0 g (.inr r)) : wp (ab_ext L xs) J_Y_tokenEnd 2 [(0, .ref v0), (2, .int v2)] [] (hp g) Q :=
  it_wp (P := fun s : Int32 => wp (ab_ext L xs) J_Y_tokenEnd 2 [(0, .ref v0), (2, .int s)] [] (hp g) Q) (E := fun r => cL_Y_tokenEnd_2 L xs Q v0 g (.inr r)) (fun s out e c => y_Y_tokenEnd_2 e (by cases out <;> exact c)) e c
theorem L_Y_tokenEnd_2_eq (v0 : Nat) (v2 : Int32) (g : g_S) : L_Y_tokenEnd_2 v0 v2 g = itc (b_Y_tokenEnd_2 v0 v2 g) (fun s => L_Y_tokenEnd_2 v0 s g) := it_eq2 (fun s : Int32 => b_Y_tokenEnd_2 v0 s g) (v2)
noncomputable def M_Y_tokenEnd (v0 : Nat) (v1 : Int32) (g : g_S) : Option Int32 :=
  (L_Y_tokenEnd_2 v0 v1 g).bind <| fun z3 =>
  some z3
set_option maxRecDepth 20000 in
theorem d_Y_tokenEnd {L : Nat} {xs : Nat → Int32} {Q : Option Value → ab_H → Prop} {v0 : Nat} {v1 : Int32} {g : g_S} {out : Int32} (e : M_Y_tokenEnd v0 v1 g = some out) (c : Q (some (.int out)) (hp g)) : mw (ab_ext L xs) J_Y_tokenEnd [.ref v0, .int v1] (hp g) Q := by
  unfold M_Y_tokenEnd at e
  refine wp_p (j := J_Y_tokenEnd) 2 (pc' := 2) (lv' := [(2, .int v1), (0, .ref v0), (1, .int v1)]) (st' := []) rfl ?_
  obtain ⟨z3, h2, e⟩ := bd e
  refine wp_lv (lv' := [(0, .ref v0), (2, .int v1)]) rfl ⟨rfl, rfl, trivial⟩ ?_
  refine l_Y_tokenEnd_2 h2 ?_
  show wp (ab_ext L xs) J_Y_tokenEnd 28 [(2, .int z3)] [] (hp g) Q
  refine wp_p (j := J_Y_tokenEnd) 1 (pc' := 29) (lv' := [(2, .int z3)]) (st' := [.int z3]) rfl ?_
  have e := Option.some.inj e; subst e; exact wp_iret (ty := .int) rfl rfl rfl c
noncomputable def M_Y_isSmall (v0 : Int32) (g : g_S) : Option Int32 :=
  if v0 < 97 then
    some 0
  else
    if 122 < v0 then
      some 0
    else
      some 1
set_option maxRecDepth 20000 in
theorem d_Y_isSmall {L : Nat} {xs : Nat → Int32} {Q : Option Value → ab_H → Prop} {v0 : Int32} {g : g_S} {out : Int32} (e : M_Y_isSmall v0 g = some out) (c : Q (some (.int out)) (hp g)) : mw (ab_ext L xs) J_Y_isSmall [.int v0] (hp g) Q := by
  unfold M_Y_isSmall at e
  refine wp_p (j := J_Y_isSmall) 2 (pc' := 3) (lv' := [(0, .int v0)]) (st' := [.int 97, .int v0]) rfl ?_
  refine x_lt e rfl (fun e => ?_) (fun e => ?_)
  · refine wp_p (j := J_Y_isSmall) 1 (pc' := 17) (lv' := [(0, .int v0)]) (st' := [.int 0]) rfl ?_
    have e := Option.some.inj e; subst e; exact wp_iret (ty := .boolean) rfl rfl (by decide) c
  · refine wp_p (j := J_Y_isSmall) 2 (pc' := 9) (lv' := [(0, .int v0)]) (st' := [.int 122, .int v0]) rfl ?_
    refine x_gt e rfl (fun e => ?_) (fun e => ?_)
    · refine wp_p (j := J_Y_isSmall) 1 (pc' := 17) (lv' := [(0, .int v0)]) (st' := [.int 0]) rfl ?_
      have e := Option.some.inj e; subst e; exact wp_iret (ty := .boolean) rfl rfl (by decide) c
    · refine wp_p (j := J_Y_isSmall) 2 (pc' := 17) (lv' := [(0, .int v0)]) (st' := [.int 1]) rfl ?_
      have e := Option.some.inj e; subst e; exact wp_iret (ty := .boolean) rfl rfl (by decide) c
noncomputable def M_Y_isDigit (v0 : Int32) (g : g_S) : Option Int32 :=
  if v0 < 48 then
    some 0
  else
    if 57 < v0 then
      some 0
    else
      some 1
set_option maxRecDepth 20000 in
theorem d_Y_isDigit {L : Nat} {xs : Nat → Int32} {Q : Option Value → ab_H → Prop} {v0 : Int32} {g : g_S} {out : Int32} (e : M_Y_isDigit v0 g = some out) (c : Q (some (.int out)) (hp g)) : mw (ab_ext L xs) J_Y_isDigit [.int v0] (hp g) Q := by
  unfold M_Y_isDigit at e
  refine wp_p (j := J_Y_isDigit) 2 (pc' := 3) (lv' := [(0, .int v0)]) (st' := [.int 48, .int v0]) rfl ?_
  refine x_lt e rfl (fun e => ?_) (fun e => ?_)
  · refine wp_p (j := J_Y_isDigit) 1 (pc' := 17) (lv' := [(0, .int v0)]) (st' := [.int 0]) rfl ?_
    have e := Option.some.inj e; subst e; exact wp_iret (ty := .boolean) rfl rfl (by decide) c
  · refine wp_p (j := J_Y_isDigit) 2 (pc' := 9) (lv' := [(0, .int v0)]) (st' := [.int 57, .int v0]) rfl ?_
    refine x_gt e rfl (fun e => ?_) (fun e => ?_)
    · refine wp_p (j := J_Y_isDigit) 1 (pc' := 17) (lv' := [(0, .int v0)]) (st' := [.int 0]) rfl ?_
      have e := Option.some.inj e; subst e; exact wp_iret (ty := .boolean) rfl rfl (by decide) c
    · refine wp_p (j := J_Y_isDigit) 2 (pc' := 17) (lv' := [(0, .int v0)]) (st' := [.int 1]) rfl ?_
      have e := Option.some.inj e; subst e; exact wp_iret (ty := .boolean) rfl rfl (by decide) c
def cL_Y_nameEnd_18 (L : Nat) (xs : Nat → Int32) (Q : Option Value → ab_H → Prop) (v0 : Nat) (v1 : Int32) (v2 : Int32) (g : g_S) (out : (Int32) ⊕ (Int32)) : Prop := match out with
  | .inl s => wp (ab_ext L xs) J_Y_nameEnd 18 [(0, .ref v0), (1, .int v1), (2, .int v2), (3, .int s)] [] (hp g) Q
  | .inr s => wp (ab_ext L xs) J_Y_nameEnd 47 [(1, .int v1), (3, .int s)] [] (hp g) Q
noncomputable def b_Y_nameEnd_18 (v0 : Nat) (v1 : Int32) (v2 : Int32) (v3 : Int32) (g : g_S) : Option ((Int32) ⊕ (Int32)) :=
  if v3 < v2 then
    (aI g 1 v0 v3).bind fun z1 =>
    (M_Y_isSmall z1 g).bind fun z2 =>
    if z2 = 0 then
      (aI g 1 v0 v3).bind fun z3 =>
      (M_Y_isDigit z3 g).bind fun z4 =>
      if z4 = 0 then
        some (.inr v3)
      else
        some (.inl (v3 + 1))
    else
      some (.inl (v3 + 1))
  else
    some (.inr v3)
set_option maxRecDepth 20000 in
theorem y_Y_nameEnd_18 {L : Nat} {xs : Nat → Int32} {Q : Option Value → ab_H → Prop} {v0 : Nat} {v1 : Int32} {v2 : Int32} {v3 : Int32} {g : g_S} {out : (Int32) ⊕ (Int32)} (e : b_Y_nameEnd_18 v0 v1 v2 v3 g = some out) (c : cL_Y_nameEnd_18 L xs Q v0 v1 v2 g out) : wp (ab_ext L xs) J_Y_nameEnd 18 [(0, .ref v0), (1, .int v1), (2, .int v2), (3, .int v3)] [] (hp g) Q := by
  unfold b_Y_nameEnd_18 at e
  refine wp_p (j := J_Y_nameEnd) 2 (pc' := 20) (lv' := [(0, .ref v0), (1, .int v1), (2, .int v2), (3, .int v3)]) (st' := [.int v2, .int v3]) rfl ?_
  refine x_ge e rfl (fun e => ?_) (fun e => ?_)
  · refine wp_p (j := J_Y_nameEnd) 2 (pc' := 25) (lv' := [(0, .ref v0), (1, .int v1), (2, .int v2), (3, .int v3)]) (st' := [.int v3, .ref v0]) rfl ?_
    refine x_aB e rfl (.inl rfl) rfl (fun z1 e => ?_)
    refine x_cs1 (As := [.int z1]) (rest := []) Value.int e rfl rfl rfl rfl rfl (fun h => d_Y_isSmall h ⟨rfl, rfl⟩) (fun z2 e => ?_)
    refine z_ne e rfl (fun e => ?_) (fun e => ?_)
    · refine wp_p (j := J_Y_nameEnd) 2 (pc' := 34) (lv' := [(0, .ref v0), (1, .int v1), (2, .int v2), (3, .int v3)]) (st' := [.int v3, .ref v0]) rfl ?_
      refine x_aB e rfl (.inl rfl) rfl (fun z3 e => ?_)
      refine x_cs1 (As := [.int z3]) (rest := []) Value.int e rfl rfl rfl rfl rfl (fun h => d_Y_isDigit h ⟨rfl, rfl⟩) (fun z4 e => ?_)
      refine z_eq e rfl (fun e => ?_) (fun e => ?_)
      · have e := Option.some.inj e; subst e; exact wp_lv (lv' := [(1, .int v1), (3, .int v3)]) rfl ⟨rfl, rfl, trivial⟩ c
      · refine wp_p (j := J_Y_nameEnd) 2 (pc' := 18) (lv' := [(3, .int (v3 + 1)), (0, .ref v0), (1, .int v1), (2, .int v2)]) (st' := []) rfl ?_
        have e := Option.some.inj e; subst e; exact wp_lv (lv' := [(0, .ref v0), (1, .int v1), (2, .int v2), (3, .int (v3 + 1))]) rfl ⟨rfl, rfl, rfl, rfl, trivial⟩ c
    · refine wp_p (j := J_Y_nameEnd) 2 (pc' := 18) (lv' := [(3, .int (v3 + 1)), (0, .ref v0), (1, .int v1), (2, .int v2)]) (st' := []) rfl ?_
      have e := Option.some.inj e; subst e; exact wp_lv (lv' := [(0, .ref v0), (1, .int v1), (2, .int v2), (3, .int (v3 + 1))]) rfl ⟨rfl, rfl, rfl, rfl, trivial⟩ c
  · have e := Option.some.inj e; subst e; exact wp_lv (lv' := [(1, .int v1), (3, .int v3)]) rfl ⟨rfl, rfl, trivial⟩ c
noncomputable def L_Y_nameEnd_18 (v0 : Nat) (v1 : Int32) (v2 : Int32) (v3 : Int32) (g : g_S) : Option (Int32) := it (fun s : Int32 => b_Y_nameEnd_18 v0 v1 v2 s g) (v3)
theorem l_Y_nameEnd_18 {L : Nat} {xs : Nat → Int32} {Q : Option Value → ab_H → Prop} {v0 : Nat} {v1 : Int32} {v2 : Int32} {v3 : Int32} {g : g_S} {r : Int32} (e : L_Y_nameEnd_18 v0 v1 v2 v3 g = some r) (c : cL_Y_nameEnd_18 L xs Q v0 v1 v2 g (.inr r)) : wp (ab_ext L xs) J_Y_nameEnd 18 [(0, .ref v0), (1, .int v1), (2, .int v2), (3, .int v3)] [] (hp g) Q :=
  it_wp (P := fun s : Int32 => wp (ab_ext L xs) J_Y_nameEnd 18 [(0, .ref v0), (1, .int v1), (2, .int v2), (3, .int s)] [] (hp g) Q) (E := fun r => cL_Y_nameEnd_18 L xs Q v0 v1 v2 g (.inr r)) (fun s out e c => y_Y_nameEnd_18 e (by cases out <;> exact c)) e c
theorem L_Y_nameEnd_18_eq (v0 : Nat) (v1 : Int32) (v2 : Int32) (v3 : Int32) (g : g_S) : L_Y_nameEnd_18 v0 v1 v2 v3 g = itc (b_Y_nameEnd_18 v0 v1 v2 v3 g) (fun s => L_Y_nameEnd_18 v0 v1 v2 s g) := it_eq2 (fun s : Int32 => b_Y_nameEnd_18 v0 v1 v2 s g) (v3)
noncomputable def k_Y_nameEnd_47 (v1 : Int32) (v3 : Int32) (g : g_S) : Option Int32 :=
  if 8 < (v3 - v1) then
    some v1
  else
    some v3
set_option maxRecDepth 20000 in
theorem x_Y_nameEnd_47 {L : Nat} {xs : Nat → Int32} {Q : Option Value → ab_H → Prop} {v1 : Int32} {v3 : Int32} {g : g_S} {out : Int32} (e : k_Y_nameEnd_47 v1 v3 g = some out) (c : Q (some (.int out)) (hp g)) : wp (ab_ext L xs) J_Y_nameEnd 47 [(1, .int v1), (3, .int v3)] [] (hp g) Q := by
  unfold k_Y_nameEnd_47 at e
  refine wp_p (j := J_Y_nameEnd) 4 (pc' := 52) (lv' := [(1, .int v1), (3, .int v3)]) (st' := [.int 8, .int (v3 - v1)]) rfl ?_
  refine x_le e rfl (fun e => ?_) (fun e => ?_)
  · refine wp_p (j := J_Y_nameEnd) 2 (pc' := 60) (lv' := [(1, .int v1), (3, .int v3)]) (st' := [.int v1]) rfl ?_
    have e := Option.some.inj e; subst e; exact wp_iret (ty := .int) rfl rfl rfl c
  · refine wp_p (j := J_Y_nameEnd) 1 (pc' := 60) (lv' := [(1, .int v1), (3, .int v3)]) (st' := [.int v3]) rfl ?_
    have e := Option.some.inj e; subst e; exact wp_iret (ty := .int) rfl rfl rfl c
noncomputable def M_Y_nameEnd (v0 : Nat) (v1 : Int32) (v2 : Int32) (g : g_S) : Option Int32 :=
  if v1 < v2 then
    (aI g 1 v0 v1).bind fun z1 =>
    (M_Y_isSmall z1 g).bind fun z2 =>
    if z2 = 0 then
      some v1
    else
      (L_Y_nameEnd_18 v0 v1 v2 v1 g).bind <| fun z5 =>
      k_Y_nameEnd_47 v1 z5 g
  else
    some v1
set_option maxRecDepth 20000 in
theorem d_Y_nameEnd {L : Nat} {xs : Nat → Int32} {Q : Option Value → ab_H → Prop} {v0 : Nat} {v1 : Int32} {v2 : Int32} {g : g_S} {out : Int32} (e : M_Y_nameEnd v0 v1 v2 g = some out) (c : Q (some (.int out)) (hp g)) : mw (ab_ext L xs) J_Y_nameEnd [.ref v0, .int v1, .int v2] (hp g) Q := by
  unfold M_Y_nameEnd at e
  refine wp_p (j := J_Y_nameEnd) 2 (pc' := 2) (lv' := [(0, .ref v0), (1, .int v1), (2, .int v2)]) (st' := [.int v2, .int v1]) rfl ?_
  refine x_ge e rfl (fun e => ?_) (fun e => ?_)
  · refine wp_p (j := J_Y_nameEnd) 2 (pc' := 7) (lv' := [(0, .ref v0), (1, .int v1), (2, .int v2)]) (st' := [.int v1, .ref v0]) rfl ?_
    refine x_aB e rfl (.inl rfl) rfl (fun z1 e => ?_)
    refine x_cs1 (As := [.int z1]) (rest := []) Value.int e rfl rfl rfl rfl rfl (fun h => d_Y_isSmall h ⟨rfl, rfl⟩) (fun z2 e => ?_)
    refine z_ne e rfl (fun e => ?_) (fun e => ?_)
    · refine wp_p (j := J_Y_nameEnd) 1 (pc' := 15) (lv' := [(0, .ref v0), (1, .int v1), (2, .int v2)]) (st' := [.int v1]) rfl ?_
      have e := Option.some.inj e; subst e; exact wp_iret (ty := .int) rfl rfl rfl c
    · refine wp_p (j := J_Y_nameEnd) 2 (pc' := 18) (lv' := [(3, .int v1), (0, .ref v0), (1, .int v1), (2, .int v2)]) (st' := []) rfl ?_
      obtain ⟨z5, h4, e⟩ := bd e
      refine wp_lv (lv' := [(0, .ref v0), (1, .int v1), (2, .int v2), (3, .int v1)]) rfl ⟨rfl, rfl, rfl, rfl, trivial⟩ ?_
      refine l_Y_nameEnd_18 h4 ?_
      show wp (ab_ext L xs) J_Y_nameEnd 47 [(1, .int v1), (3, .int z5)] [] (hp g) Q
      exact wp_lv (lv' := [(1, .int v1), (3, .int z5)]) rfl ⟨rfl, rfl, trivial⟩ (x_Y_nameEnd_47 e c)
  · refine wp_p (j := J_Y_nameEnd) 1 (pc' := 15) (lv' := [(0, .ref v0), (1, .int v1), (2, .int v2)]) (st' := [.int v1]) rfl ?_
    have e := Option.some.inj e; subst e; exact wp_iret (ty := .int) rfl rfl rfl c
noncomputable def M_Y_put (v0 : Nat) (v1 : Int32) (v2 : Int32) (g : g_S) : Option g_S :=
  (rQ g 112 v0 6).bind fun z1 =>
  (rQ g 112 v0 7).bind fun z2 =>
  (aI g 0 z2 v1).bind fun z3 =>
  (sB g z1 ((v1 * 150) + z3) ((Int32.toInt8 v2).toInt32)).bind fun g4 =>
  (rQ g4 112 v0 7).bind fun z5 =>
  (aI g4 0 z5 v1).bind fun z6 =>
  (sI g4 z5 v1 (z6 + 1)).bind fun g7 =>
  some g7
set_option maxRecDepth 20000 in
theorem d_Y_put {L : Nat} {xs : Nat → Int32} {Q : Option Value → ab_H → Prop} {v0 : Nat} {v1 : Int32} {v2 : Int32} {g : g_S} {out : g_S} (e : M_Y_put v0 v1 v2 g = some out) (c : Q none (hp out)) : mw (ab_ext L xs) J_Y_put [.ref v0, .int v1, .int v2] (hp g) Q := by
  unfold M_Y_put at e
  refine wp_p (j := J_Y_put) 1 (pc' := 1) (lv' := [(0, .ref v0), (1, .int v1), (2, .int v2)]) (st' := [.ref v0]) rfl ?_
  refine x_gQ e rfl rfl fd_12_6 rfl (fun z1 e => ?_)
  refine wp_p (j := J_Y_put) 4 (pc' := 10) (lv' := [(0, .ref v0), (1, .int v1), (2, .int v2)]) (st' := [.ref v0, .int (v1 * 150), .ref z1]) rfl ?_
  refine x_gQ e rfl rfl fd_12_7 rfl (fun z2 e => ?_)
  refine wp_p (j := J_Y_put) 1 (pc' := 14) (lv' := [(0, .ref v0), (1, .int v1), (2, .int v2)]) (st' := [.int v1, .ref z2, .int (v1 * 150), .ref z1]) rfl ?_
  refine x_aI e rfl rfl (fun z3 e => ?_)
  refine wp_p (j := J_Y_put) 3 (pc' := 18) (lv' := [(0, .ref v0), (1, .int v1), (2, .int v2)]) (st' := [.int ((Int32.toInt8 v2).toInt32), .int ((v1 * 150) + z3), .ref z1]) rfl ?_
  refine x_sB e rfl rfl (fun g4 e => ?_)
  refine wp_p (j := J_Y_put) 1 (pc' := 20) (lv' := [(0, .ref v0), (1, .int v1), (2, .int v2)]) (st' := [.ref v0]) rfl ?_
  refine x_gQ e rfl rfl fd_12_7 rfl (fun z5 e => ?_)
  refine wp_p (j := J_Y_put) 2 (pc' := 25) (lv' := [(0, .ref v0), (1, .int v1), (2, .int v2)]) (st' := [.int v1, .ref z5, .int v1, .ref z5]) rfl ?_
  refine x_aI e rfl rfl (fun z6 e => ?_)
  refine wp_p (j := J_Y_put) 2 (pc' := 28) (lv' := [(0, .ref v0), (1, .int v1), (2, .int v2)]) (st' := [.int (z6 + 1), .int v1, .ref z5]) rfl ?_
  refine x_sI e rfl rfl (fun g7 e => ?_)
  have e := Option.some.inj e; subst e; exact wp_vret rfl rfl c
noncomputable def M_Y_isSegment (v0 : Int32) (g : g_S) : Option Int32 :=
  (M_Y_isSmall v0 g).bind fun z1 =>
  if z1 = 0 then
    (M_Y_isDigit v0 g).bind fun z2 =>
    if z2 = 0 then
      if v0 = 46 then
        some 1
      else
        if v0 = 45 then
          some 1
        else
          if v0 = 95 then
            some 1
          else
            some 0
    else
      some 1
  else
    some 1
set_option maxRecDepth 20000 in
theorem d_Y_isSegment {L : Nat} {xs : Nat → Int32} {Q : Option Value → ab_H → Prop} {v0 : Int32} {g : g_S} {out : Int32} (e : M_Y_isSegment v0 g = some out) (c : Q (some (.int out)) (hp g)) : mw (ab_ext L xs) J_Y_isSegment [.int v0] (hp g) Q := by
  unfold M_Y_isSegment at e
  refine wp_p (j := J_Y_isSegment) 1 (pc' := 1) (lv' := [(0, .int v0)]) (st' := [.int v0]) rfl ?_
  refine x_cs1 (As := [.int v0]) (rest := []) Value.int e rfl rfl rfl rfl rfl (fun h => d_Y_isSmall h ⟨rfl, rfl⟩) (fun z1 e => ?_)
  refine z_ne e rfl (fun e => ?_) (fun e => ?_)
  · refine wp_p (j := J_Y_isSegment) 1 (pc' := 8) (lv' := [(0, .int v0)]) (st' := [.int v0]) rfl ?_
    refine x_cs1 (As := [.int v0]) (rest := []) Value.int e rfl rfl rfl rfl rfl (fun h => d_Y_isDigit h ⟨rfl, rfl⟩) (fun z2 e => ?_)
    refine z_ne e rfl (fun e => ?_) (fun e => ?_)
    · refine wp_p (j := J_Y_isSegment) 2 (pc' := 17) (lv' := [(0, .int v0)]) (st' := [.int 46, .int v0]) rfl ?_
      refine x_eq e rfl (fun e => ?_) (fun e => ?_)
      · refine wp_p (j := J_Y_isSegment) 2 (pc' := 37) (lv' := [(0, .int v0)]) (st' := [.int 1]) rfl ?_
        have e := Option.some.inj e; subst e; exact wp_iret (ty := .boolean) rfl rfl (by decide) c
      · refine wp_p (j := J_Y_isSegment) 2 (pc' := 23) (lv' := [(0, .int v0)]) (st' := [.int 45, .int v0]) rfl ?_
        refine x_eq e rfl (fun e => ?_) (fun e => ?_)
        · refine wp_p (j := J_Y_isSegment) 2 (pc' := 37) (lv' := [(0, .int v0)]) (st' := [.int 1]) rfl ?_
          have e := Option.some.inj e; subst e; exact wp_iret (ty := .boolean) rfl rfl (by decide) c
        · refine wp_p (j := J_Y_isSegment) 2 (pc' := 29) (lv' := [(0, .int v0)]) (st' := [.int 95, .int v0]) rfl ?_
          refine x_ne e rfl (fun e => ?_) (fun e => ?_)
          · refine wp_p (j := J_Y_isSegment) 2 (pc' := 37) (lv' := [(0, .int v0)]) (st' := [.int 1]) rfl ?_
            have e := Option.some.inj e; subst e; exact wp_iret (ty := .boolean) rfl rfl (by decide) c
          · refine wp_p (j := J_Y_isSegment) 1 (pc' := 37) (lv' := [(0, .int v0)]) (st' := [.int 0]) rfl ?_
            have e := Option.some.inj e; subst e; exact wp_iret (ty := .boolean) rfl rfl (by decide) c
    · refine wp_p (j := J_Y_isSegment) 2 (pc' := 37) (lv' := [(0, .int v0)]) (st' := [.int 1]) rfl ?_
      have e := Option.some.inj e; subst e; exact wp_iret (ty := .boolean) rfl rfl (by decide) c
  · refine wp_p (j := J_Y_isSegment) 2 (pc' := 37) (lv' := [(0, .int v0)]) (st' := [.int 1]) rfl ?_
    have e := Option.some.inj e; subst e; exact wp_iret (ty := .boolean) rfl rfl (by decide) c
def cL_Y_segment_138 (L : Nat) (xs : Nat → Int32) (Q : Option Value → ab_H → Prop) (v0 : Nat) (v1 : Nat) (v2 : Int32) (v3 : Int32) (out : (Int32 × g_S) ⊕ (g_S)) : Prop := match out with
  | .inl s => wp (ab_ext L xs) J_Y_segment 138 [(0, .ref v0), (1, .ref v1), (2, .int v2), (3, .int v3), (4, .int s.1)] [] (hp s.2) Q
  | .inr s => wp (ab_ext L xs) J_Y_segment 173 [(0, .ref v0)] [] (hp s) Q
noncomputable def b_Y_segment_138 (v0 : Nat) (v1 : Nat) (v2 : Int32) (v3 : Int32) (v4 : Int32) (g : g_S) : Option ((Int32 × g_S) ⊕ (g_S)) :=
  if v4 < v3 then
    (rQ g 112 v0 9).bind fun z1 =>
    (rQ g 112 v0 10).bind fun z2 =>
    (rI g 112 v0 12).bind fun z3 =>
    (aI g 0 z2 z3).bind fun z4 =>
    (aI g 1 v1 (v2 + v4)).bind fun z5 =>
    (sB g z1 (z4 + v4) z5).bind fun g6 =>
    some (.inl (v4 + 1, g6))
  else
    some (.inr g)
set_option maxRecDepth 20000 in
theorem y_Y_segment_138 {L : Nat} {xs : Nat → Int32} {Q : Option Value → ab_H → Prop} {v0 : Nat} {v1 : Nat} {v2 : Int32} {v3 : Int32} {v4 : Int32} {g : g_S} {out : (Int32 × g_S) ⊕ (g_S)} (e : b_Y_segment_138 v0 v1 v2 v3 v4 g = some out) (c : cL_Y_segment_138 L xs Q v0 v1 v2 v3 out) : wp (ab_ext L xs) J_Y_segment 138 [(0, .ref v0), (1, .ref v1), (2, .int v2), (3, .int v3), (4, .int v4)] [] (hp g) Q := by
  unfold b_Y_segment_138 at e
  refine wp_p (j := J_Y_segment) 2 (pc' := 141) (lv' := [(0, .ref v0), (1, .ref v1), (2, .int v2), (3, .int v3), (4, .int v4)]) (st' := [.int v3, .int v4]) rfl ?_
  refine x_ge e rfl (fun e => ?_) (fun e => ?_)
  · refine wp_p (j := J_Y_segment) 1 (pc' := 145) (lv' := [(0, .ref v0), (1, .ref v1), (2, .int v2), (3, .int v3), (4, .int v4)]) (st' := [.ref v0]) rfl ?_
    refine x_gQ e rfl rfl fd_12_9 rfl (fun z1 e => ?_)
    refine wp_p (j := J_Y_segment) 1 (pc' := 149) (lv' := [(0, .ref v0), (1, .ref v1), (2, .int v2), (3, .int v3), (4, .int v4)]) (st' := [.ref v0, .ref z1]) rfl ?_
    refine x_gQ e rfl rfl fd_12_10 rfl (fun z2 e => ?_)
    refine wp_p (j := J_Y_segment) 1 (pc' := 153) (lv' := [(0, .ref v0), (1, .ref v1), (2, .int v2), (3, .int v3), (4, .int v4)]) (st' := [.ref v0, .ref z2, .ref z1]) rfl ?_
    refine x_gI e rfl rfl fd_12_12 rfl (fun z3 e => ?_)
    refine x_aI e rfl rfl (fun z4 e => ?_)
    refine wp_p (j := J_Y_segment) 6 (pc' := 165) (lv' := [(0, .ref v0), (1, .ref v1), (2, .int v2), (3, .int v3), (4, .int v4)]) (st' := [.int (v2 + v4), .ref v1, .int (z4 + v4), .ref z1]) rfl ?_
    refine x_aB e rfl (.inl rfl) rfl (fun z5 e => ?_)
    refine x_sB e rfl rfl (fun g6 e => ?_)
    refine wp_p (j := J_Y_segment) 2 (pc' := 138) (lv' := [(4, .int (v4 + 1)), (0, .ref v0), (1, .ref v1), (2, .int v2), (3, .int v3)]) (st' := []) rfl ?_
    have e := Option.some.inj e; subst e; exact wp_lv (lv' := [(0, .ref v0), (1, .ref v1), (2, .int v2), (3, .int v3), (4, .int (v4 + 1))]) rfl ⟨rfl, rfl, rfl, rfl, rfl, trivial⟩ c
  · have e := Option.some.inj e; subst e; exact wp_lv (lv' := [(0, .ref v0)]) rfl ⟨rfl, trivial⟩ c
noncomputable def L_Y_segment_138 (v0 : Nat) (v1 : Nat) (v2 : Int32) (v3 : Int32) (v4 : Int32) (g : g_S) : Option (g_S) := it (fun s : Int32 × g_S => b_Y_segment_138 v0 v1 v2 v3 s.1 s.2) (v4, g)
theorem l_Y_segment_138 {L : Nat} {xs : Nat → Int32} {Q : Option Value → ab_H → Prop} {v0 : Nat} {v1 : Nat} {v2 : Int32} {v3 : Int32} {v4 : Int32} {g : g_S} {r : g_S} (e : L_Y_segment_138 v0 v1 v2 v3 v4 g = some r) (c : cL_Y_segment_138 L xs Q v0 v1 v2 v3 (.inr r)) : wp (ab_ext L xs) J_Y_segment 138 [(0, .ref v0), (1, .ref v1), (2, .int v2), (3, .int v3), (4, .int v4)] [] (hp g) Q :=
  it_wp (P := fun s : Int32 × g_S => wp (ab_ext L xs) J_Y_segment 138 [(0, .ref v0), (1, .ref v1), (2, .int v2), (3, .int v3), (4, .int s.1)] [] (hp s.2) Q) (E := fun r => cL_Y_segment_138 L xs Q v0 v1 v2 v3 (.inr r)) (fun s out e c => y_Y_segment_138 e (by cases out <;> exact c)) e c
theorem L_Y_segment_138_eq (v0 : Nat) (v1 : Nat) (v2 : Int32) (v3 : Int32) (v4 : Int32) (g : g_S) : L_Y_segment_138 v0 v1 v2 v3 v4 g = itc (b_Y_segment_138 v0 v1 v2 v3 v4 g) (fun s => L_Y_segment_138 v0 v1 v2 v3 s.1 s.2) := it_eq2 (fun s : Int32 × g_S => b_Y_segment_138 v0 v1 v2 v3 s.1 s.2) (v4, g)
noncomputable def k_Y_segment_124 (v0 : Nat) (v1 : Nat) (v2 : Int32) (v3 : Int32) (w0 : Int32) (w1 : Int32) (w2 : Nat) (g : g_S) : Option g_S :=
  (sI g w2 w1 w0).bind fun g1 =>
  (rQ g1 112 v0 11).bind fun z2 =>
  (rI g1 112 v0 12).bind fun z3 =>
  (sI g1 z2 z3 v3).bind fun g4 =>
  (L_Y_segment_138 v0 v1 v2 v3 0 g4).bind <| fun g7 =>
  (rI g7 112 v0 12).bind fun z8 =>
  (wI g7 112 v0 12 (z8 + 1)).bind fun g9 =>
  some g9
set_option maxRecDepth 20000 in
theorem x_Y_segment_124 {L : Nat} {xs : Nat → Int32} {Q : Option Value → ab_H → Prop} {v0 : Nat} {v1 : Nat} {v2 : Int32} {v3 : Int32} {w0 : Int32} {w1 : Int32} {w2 : Nat} {g : g_S} {out : g_S} (e : k_Y_segment_124 v0 v1 v2 v3 w0 w1 w2 g = some out) (c : Q none (hp out)) : wp (ab_ext L xs) J_Y_segment 124 [(0, .ref v0), (1, .ref v1), (2, .int v2), (3, .int v3)] [.int w0, .int w1, .ref w2] (hp g) Q := by
  unfold k_Y_segment_124 at e
  refine x_sI e rfl rfl (fun g1 e => ?_)
  refine wp_p (j := J_Y_segment) 1 (pc' := 126) (lv' := [(0, .ref v0), (1, .ref v1), (2, .int v2), (3, .int v3)]) (st' := [.ref v0]) rfl ?_
  refine x_gQ e rfl rfl fd_12_11 rfl (fun z2 e => ?_)
  refine wp_p (j := J_Y_segment) 1 (pc' := 130) (lv' := [(0, .ref v0), (1, .ref v1), (2, .int v2), (3, .int v3)]) (st' := [.ref v0, .ref z2]) rfl ?_
  refine x_gI e rfl rfl fd_12_12 rfl (fun z3 e => ?_)
  refine wp_p (j := J_Y_segment) 1 (pc' := 134) (lv' := [(0, .ref v0), (1, .ref v1), (2, .int v2), (3, .int v3)]) (st' := [.int v3, .int z3, .ref z2]) rfl ?_
  refine x_sI e rfl rfl (fun g4 e => ?_)
  refine wp_p (j := J_Y_segment) 2 (pc' := 138) (lv' := [(4, .int 0), (0, .ref v0), (1, .ref v1), (2, .int v2), (3, .int v3)]) (st' := []) rfl ?_
  obtain ⟨g7, h6, e⟩ := bd e
  refine wp_lv (lv' := [(0, .ref v0), (1, .ref v1), (2, .int v2), (3, .int v3), (4, .int 0)]) rfl ⟨rfl, rfl, rfl, rfl, rfl, trivial⟩ ?_
  refine l_Y_segment_138 h6 ?_
  show wp (ab_ext L xs) J_Y_segment 173 [(0, .ref v0)] [] (hp g7) Q
  refine wp_p (j := J_Y_segment) 2 (pc' := 175) (lv' := [(0, .ref v0)]) (st' := [.ref v0, .ref v0]) rfl ?_
  refine x_gI e rfl rfl fd_12_12 rfl (fun z8 e => ?_)
  refine wp_p (j := J_Y_segment) 2 (pc' := 180) (lv' := [(0, .ref v0)]) (st' := [.int (z8 + 1), .ref v0]) rfl ?_
  refine x_pI e rfl rfl fw_12_12 rfl (fun g9 e => ?_)
  have e := Option.some.inj e; subst e; exact wp_vret rfl rfl c
noncomputable def k_Y_segment_74 (v0 : Nat) (v1 : Nat) (v2 : Int32) (v3 : Int32) (g : g_S) : Option g_S :=
  (rI g 112 v0 14).bind fun z1 =>
  if z1 = 0 then
    (rQ g 112 v0 10).bind fun z2 =>
    (rI g 112 v0 12).bind fun z3 =>
    (rI g 112 v0 12).bind fun z4 =>
    if z4 = 0 then
      k_Y_segment_124 v0 v1 v2 v3 0 z3 z2 g
    else
      (rQ g 112 v0 10).bind fun z5 =>
      (rI g 112 v0 12).bind fun z6 =>
      (aI g 0 z5 (z6 - 1)).bind fun z7 =>
      (rQ g 112 v0 11).bind fun z8 =>
      (rI g 112 v0 12).bind fun z9 =>
      (aI g 0 z8 (z9 - 1)).bind fun z10 =>
      k_Y_segment_124 v0 v1 v2 v3 (z7 + z10) z3 z2 g
  else
    some g
set_option maxRecDepth 20000 in
theorem x_Y_segment_74 {L : Nat} {xs : Nat → Int32} {Q : Option Value → ab_H → Prop} {v0 : Nat} {v1 : Nat} {v2 : Int32} {v3 : Int32} {g : g_S} {out : g_S} (e : k_Y_segment_74 v0 v1 v2 v3 g = some out) (c : Q none (hp out)) : wp (ab_ext L xs) J_Y_segment 74 [(0, .ref v0), (1, .ref v1), (2, .int v2), (3, .int v3)] [] (hp g) Q := by
  unfold k_Y_segment_74 at e
  refine wp_p (j := J_Y_segment) 1 (pc' := 75) (lv' := [(0, .ref v0), (1, .ref v1), (2, .int v2), (3, .int v3)]) (st' := [.ref v0]) rfl ?_
  refine x_gI e rfl rfl fd_12_14 rfl (fun z1 e => ?_)
  refine z_eq e rfl (fun e => ?_) (fun e => ?_)
  · refine wp_p (j := J_Y_segment) 1 (pc' := 83) (lv' := [(0, .ref v0), (1, .ref v1), (2, .int v2), (3, .int v3)]) (st' := [.ref v0]) rfl ?_
    refine x_gQ e rfl rfl fd_12_10 rfl (fun z2 e => ?_)
    refine wp_p (j := J_Y_segment) 1 (pc' := 87) (lv' := [(0, .ref v0), (1, .ref v1), (2, .int v2), (3, .int v3)]) (st' := [.ref v0, .ref z2]) rfl ?_
    refine x_gI e rfl rfl fd_12_12 rfl (fun z3 e => ?_)
    refine wp_p (j := J_Y_segment) 1 (pc' := 91) (lv' := [(0, .ref v0), (1, .ref v1), (2, .int v2), (3, .int v3)]) (st' := [.ref v0, .int z3, .ref z2]) rfl ?_
    refine x_gI e rfl rfl fd_12_12 rfl (fun z4 e => ?_)
    refine z_ne e rfl (fun e => ?_) (fun e => ?_)
    · refine wp_p (j := J_Y_segment) 2 (pc' := 124) (lv' := [(0, .ref v0), (1, .ref v1), (2, .int v2), (3, .int v3)]) (st' := [.int 0, .int z3, .ref z2]) rfl ?_
      exact wp_lv (lv' := [(0, .ref v0), (1, .ref v1), (2, .int v2), (3, .int v3)]) rfl ⟨rfl, rfl, rfl, rfl, trivial⟩ (x_Y_segment_124 e c)
    · refine wp_p (j := J_Y_segment) 1 (pc' := 102) (lv' := [(0, .ref v0), (1, .ref v1), (2, .int v2), (3, .int v3)]) (st' := [.ref v0, .int z3, .ref z2]) rfl ?_
      refine x_gQ e rfl rfl fd_12_10 rfl (fun z5 e => ?_)
      refine wp_p (j := J_Y_segment) 1 (pc' := 106) (lv' := [(0, .ref v0), (1, .ref v1), (2, .int v2), (3, .int v3)]) (st' := [.ref v0, .ref z5, .int z3, .ref z2]) rfl ?_
      refine x_gI e rfl rfl fd_12_12 rfl (fun z6 e => ?_)
      refine wp_p (j := J_Y_segment) 2 (pc' := 111) (lv' := [(0, .ref v0), (1, .ref v1), (2, .int v2), (3, .int v3)]) (st' := [.int (z6 - 1), .ref z5, .int z3, .ref z2]) rfl ?_
      refine x_aI e rfl rfl (fun z7 e => ?_)
      refine wp_p (j := J_Y_segment) 1 (pc' := 113) (lv' := [(0, .ref v0), (1, .ref v1), (2, .int v2), (3, .int v3)]) (st' := [.ref v0, .int z7, .int z3, .ref z2]) rfl ?_
      refine x_gQ e rfl rfl fd_12_11 rfl (fun z8 e => ?_)
      refine wp_p (j := J_Y_segment) 1 (pc' := 117) (lv' := [(0, .ref v0), (1, .ref v1), (2, .int v2), (3, .int v3)]) (st' := [.ref v0, .ref z8, .int z7, .int z3, .ref z2]) rfl ?_
      refine x_gI e rfl rfl fd_12_12 rfl (fun z9 e => ?_)
      refine wp_p (j := J_Y_segment) 2 (pc' := 122) (lv' := [(0, .ref v0), (1, .ref v1), (2, .int v2), (3, .int v3)]) (st' := [.int (z9 - 1), .ref z8, .int z7, .int z3, .ref z2]) rfl ?_
      refine x_aI e rfl rfl (fun z10 e => ?_)
      refine wp_p (j := J_Y_segment) 1 (pc' := 124) (lv' := [(0, .ref v0), (1, .ref v1), (2, .int v2), (3, .int v3)]) (st' := [.int (z7 + z10), .int z3, .ref z2]) rfl ?_
      exact wp_lv (lv' := [(0, .ref v0), (1, .ref v1), (2, .int v2), (3, .int v3)]) rfl ⟨rfl, rfl, rfl, rfl, trivial⟩ (x_Y_segment_124 e c)
  · have e := Option.some.inj e; subst e; exact wp_vret rfl rfl c
noncomputable def k_Y_segment_42 (v0 : Nat) (v1 : Nat) (v2 : Int32) (v3 : Int32) (w0 : Int32) (w1 : Nat) (g : g_S) : Option g_S :=
  (wZ g 112 w1 14 w0).bind fun g1 =>
  if v3 = 2 then
    (rI g1 112 v0 14).bind fun z2 =>
    if z2 = 0 then
      k_Y_segment_74 v0 v1 v2 v3 g1
    else
      (rI g1 112 v0 12).bind fun z3 =>
      if 0 < z3 then
        (rI g1 112 v0 12).bind fun z4 =>
        (wI g1 112 v0 12 (z4 - 1)).bind fun g5 =>
        k_Y_segment_74 v0 v1 v2 v3 g5
      else
        k_Y_segment_74 v0 v1 v2 v3 g1
  else
    k_Y_segment_74 v0 v1 v2 v3 g1
set_option maxRecDepth 20000 in
theorem x_Y_segment_42 {L : Nat} {xs : Nat → Int32} {Q : Option Value → ab_H → Prop} {v0 : Nat} {v1 : Nat} {v2 : Int32} {v3 : Int32} {w0 : Int32} {w1 : Nat} {g : g_S} {out : g_S} (e : k_Y_segment_42 v0 v1 v2 v3 w0 w1 g = some out) (c : Q none (hp out)) : wp (ab_ext L xs) J_Y_segment 42 [(0, .ref v0), (1, .ref v1), (2, .int v2), (3, .int v3)] [.int w0, .ref w1] (hp g) Q := by
  unfold k_Y_segment_42 at e
  refine x_pZ e rfl rfl fw_12_14 rfl (fun g1 e => ?_)
  refine wp_p (j := J_Y_segment) 2 (pc' := 47) (lv' := [(0, .ref v0), (1, .ref v1), (2, .int v2), (3, .int v3)]) (st' := [.int 2, .int v3]) rfl ?_
  refine x_ne e rfl (fun e => ?_) (fun e => ?_)
  · refine wp_p (j := J_Y_segment) 1 (pc' := 51) (lv' := [(0, .ref v0), (1, .ref v1), (2, .int v2), (3, .int v3)]) (st' := [.ref v0]) rfl ?_
    refine x_gI e rfl rfl fd_12_14 rfl (fun z2 e => ?_)
    refine z_eq e rfl (fun e => ?_) (fun e => ?_)
    · exact wp_lv (lv' := [(0, .ref v0), (1, .ref v1), (2, .int v2), (3, .int v3)]) rfl ⟨rfl, rfl, rfl, rfl, trivial⟩ (x_Y_segment_74 e c)
    · refine wp_p (j := J_Y_segment) 1 (pc' := 58) (lv' := [(0, .ref v0), (1, .ref v1), (2, .int v2), (3, .int v3)]) (st' := [.ref v0]) rfl ?_
      refine x_gI e rfl rfl fd_12_12 rfl (fun z3 e => ?_)
      refine z_le e rfl (fun e => ?_) (fun e => ?_)
      · refine wp_p (j := J_Y_segment) 2 (pc' := 66) (lv' := [(0, .ref v0), (1, .ref v1), (2, .int v2), (3, .int v3)]) (st' := [.ref v0, .ref v0]) rfl ?_
        refine x_gI e rfl rfl fd_12_12 rfl (fun z4 e => ?_)
        refine wp_p (j := J_Y_segment) 2 (pc' := 71) (lv' := [(0, .ref v0), (1, .ref v1), (2, .int v2), (3, .int v3)]) (st' := [.int (z4 - 1), .ref v0]) rfl ?_
        refine x_pI e rfl rfl fw_12_12 rfl (fun g5 e => ?_)
        exact wp_lv (lv' := [(0, .ref v0), (1, .ref v1), (2, .int v2), (3, .int v3)]) rfl ⟨rfl, rfl, rfl, rfl, trivial⟩ (x_Y_segment_74 e c)
      · exact wp_lv (lv' := [(0, .ref v0), (1, .ref v1), (2, .int v2), (3, .int v3)]) rfl ⟨rfl, rfl, rfl, rfl, trivial⟩ (x_Y_segment_74 e c)
  · exact wp_lv (lv' := [(0, .ref v0), (1, .ref v1), (2, .int v2), (3, .int v3)]) rfl ⟨rfl, rfl, rfl, rfl, trivial⟩ (x_Y_segment_74 e c)
noncomputable def k_Y_segment_41 (v0 : Nat) (v1 : Nat) (v2 : Int32) (v3 : Int32) (w0 : Nat) (g : g_S) : Option g_S :=
  k_Y_segment_42 v0 v1 v2 v3 0 w0 g
set_option maxRecDepth 20000 in
theorem x_Y_segment_41 {L : Nat} {xs : Nat → Int32} {Q : Option Value → ab_H → Prop} {v0 : Nat} {v1 : Nat} {v2 : Int32} {v3 : Int32} {w0 : Nat} {g : g_S} {out : g_S} (e : k_Y_segment_41 v0 v1 v2 v3 w0 g = some out) (c : Q none (hp out)) : wp (ab_ext L xs) J_Y_segment 41 [(0, .ref v0), (1, .ref v1), (2, .int v2), (3, .int v3)] [.ref w0] (hp g) Q := by
  unfold k_Y_segment_41 at e
  refine wp_p (j := J_Y_segment) 1 (pc' := 42) (lv' := [(0, .ref v0), (1, .ref v1), (2, .int v2), (3, .int v3)]) (st' := [.int 0, .ref w0]) rfl ?_
  exact wp_lv (lv' := [(0, .ref v0), (1, .ref v1), (2, .int v2), (3, .int v3)]) rfl ⟨rfl, rfl, rfl, rfl, trivial⟩ (x_Y_segment_42 e c)
noncomputable def k_Y_segment_37 (v0 : Nat) (v1 : Nat) (v2 : Int32) (v3 : Int32) (w0 : Nat) (g : g_S) : Option g_S :=
  k_Y_segment_42 v0 v1 v2 v3 1 w0 g
set_option maxRecDepth 20000 in
theorem x_Y_segment_37 {L : Nat} {xs : Nat → Int32} {Q : Option Value → ab_H → Prop} {v0 : Nat} {v1 : Nat} {v2 : Int32} {v3 : Int32} {w0 : Nat} {g : g_S} {out : g_S} (e : k_Y_segment_37 v0 v1 v2 v3 w0 g = some out) (c : Q none (hp out)) : wp (ab_ext L xs) J_Y_segment 37 [(0, .ref v0), (1, .ref v1), (2, .int v2), (3, .int v3)] [.ref w0] (hp g) Q := by
  unfold k_Y_segment_37 at e
  refine wp_p (j := J_Y_segment) 2 (pc' := 42) (lv' := [(0, .ref v0), (1, .ref v1), (2, .int v2), (3, .int v3)]) (st' := [.int 1, .ref w0]) rfl ?_
  exact wp_lv (lv' := [(0, .ref v0), (1, .ref v1), (2, .int v2), (3, .int v3)]) rfl ⟨rfl, rfl, rfl, rfl, trivial⟩ (x_Y_segment_42 e c)
noncomputable def k_Y_segment_14 (v0 : Nat) (v1 : Nat) (v2 : Int32) (v3 : Int32) (w0 : Nat) (g : g_S) : Option g_S :=
  if v3 = 2 then
    (aI g 1 v1 v2).bind fun z1 =>
    if z1 = 46 then
      (aI g 1 v1 (v2 + 1)).bind fun z2 =>
      if z2 = 46 then
        k_Y_segment_37 v0 v1 v2 v3 w0 g
      else
        k_Y_segment_41 v0 v1 v2 v3 w0 g
    else
      k_Y_segment_41 v0 v1 v2 v3 w0 g
  else
    k_Y_segment_41 v0 v1 v2 v3 w0 g
set_option maxRecDepth 20000 in
theorem x_Y_segment_14 {L : Nat} {xs : Nat → Int32} {Q : Option Value → ab_H → Prop} {v0 : Nat} {v1 : Nat} {v2 : Int32} {v3 : Int32} {w0 : Nat} {g : g_S} {out : g_S} (e : k_Y_segment_14 v0 v1 v2 v3 w0 g = some out) (c : Q none (hp out)) : wp (ab_ext L xs) J_Y_segment 14 [(0, .ref v0), (1, .ref v1), (2, .int v2), (3, .int v3)] [.ref w0] (hp g) Q := by
  unfold k_Y_segment_14 at e
  refine wp_p (j := J_Y_segment) 2 (pc' := 16) (lv' := [(0, .ref v0), (1, .ref v1), (2, .int v2), (3, .int v3)]) (st' := [.int 2, .int v3, .ref w0]) rfl ?_
  refine x_ne e rfl (fun e => ?_) (fun e => ?_)
  · refine wp_p (j := J_Y_segment) 2 (pc' := 21) (lv' := [(0, .ref v0), (1, .ref v1), (2, .int v2), (3, .int v3)]) (st' := [.int v2, .ref v1, .ref w0]) rfl ?_
    refine x_aB e rfl (.inl rfl) rfl (fun z1 e => ?_)
    refine wp_p (j := J_Y_segment) 1 (pc' := 24) (lv' := [(0, .ref v0), (1, .ref v1), (2, .int v2), (3, .int v3)]) (st' := [.int 46, .int z1, .ref w0]) rfl ?_
    refine x_ne e rfl (fun e => ?_) (fun e => ?_)
    · refine wp_p (j := J_Y_segment) 4 (pc' := 31) (lv' := [(0, .ref v0), (1, .ref v1), (2, .int v2), (3, .int v3)]) (st' := [.int (v2 + 1), .ref v1, .ref w0]) rfl ?_
      refine x_aB e rfl (.inl rfl) rfl (fun z2 e => ?_)
      refine wp_p (j := J_Y_segment) 1 (pc' := 34) (lv' := [(0, .ref v0), (1, .ref v1), (2, .int v2), (3, .int v3)]) (st' := [.int 46, .int z2, .ref w0]) rfl ?_
      refine x_ne e rfl (fun e => ?_) (fun e => ?_)
      · exact wp_lv (lv' := [(0, .ref v0), (1, .ref v1), (2, .int v2), (3, .int v3)]) rfl ⟨rfl, rfl, rfl, rfl, trivial⟩ (x_Y_segment_37 e c)
      · exact wp_lv (lv' := [(0, .ref v0), (1, .ref v1), (2, .int v2), (3, .int v3)]) rfl ⟨rfl, rfl, rfl, rfl, trivial⟩ (x_Y_segment_41 e c)
    · exact wp_lv (lv' := [(0, .ref v0), (1, .ref v1), (2, .int v2), (3, .int v3)]) rfl ⟨rfl, rfl, rfl, rfl, trivial⟩ (x_Y_segment_41 e c)
  · exact wp_lv (lv' := [(0, .ref v0), (1, .ref v1), (2, .int v2), (3, .int v3)]) rfl ⟨rfl, rfl, rfl, rfl, trivial⟩ (x_Y_segment_41 e c)
noncomputable def M_Y_segment (v0 : Nat) (v1 : Nat) (v2 : Int32) (v3 : Int32) (g : g_S) : Option g_S :=
  if v3 = 1 then
    (aI g 1 v1 v2).bind fun z1 =>
    if z1 = 46 then
      k_Y_segment_37 v0 v1 v2 v3 v0 g
    else
      k_Y_segment_14 v0 v1 v2 v3 v0 g
  else
    k_Y_segment_14 v0 v1 v2 v3 v0 g
set_option maxRecDepth 20000 in
theorem d_Y_segment {L : Nat} {xs : Nat → Int32} {Q : Option Value → ab_H → Prop} {v0 : Nat} {v1 : Nat} {v2 : Int32} {v3 : Int32} {g : g_S} {out : g_S} (e : M_Y_segment v0 v1 v2 v3 g = some out) (c : Q none (hp out)) : mw (ab_ext L xs) J_Y_segment [.ref v0, .ref v1, .int v2, .int v3] (hp g) Q := by
  unfold M_Y_segment at e
  refine wp_p (j := J_Y_segment) 3 (pc' := 3) (lv' := [(0, .ref v0), (1, .ref v1), (2, .int v2), (3, .int v3)]) (st' := [.int 1, .int v3, .ref v0]) rfl ?_
  refine x_ne e rfl (fun e => ?_) (fun e => ?_)
  · refine wp_p (j := J_Y_segment) 2 (pc' := 8) (lv' := [(0, .ref v0), (1, .ref v1), (2, .int v2), (3, .int v3)]) (st' := [.int v2, .ref v1, .ref v0]) rfl ?_
    refine x_aB e rfl (.inl rfl) rfl (fun z1 e => ?_)
    refine wp_p (j := J_Y_segment) 1 (pc' := 11) (lv' := [(0, .ref v0), (1, .ref v1), (2, .int v2), (3, .int v3)]) (st' := [.int 46, .int z1, .ref v0]) rfl ?_
    refine x_eq e rfl (fun e => ?_) (fun e => ?_)
    · exact wp_lv (lv' := [(0, .ref v0), (1, .ref v1), (2, .int v2), (3, .int v3)]) rfl ⟨rfl, rfl, rfl, rfl, trivial⟩ (x_Y_segment_37 e c)
    · exact wp_lv (lv' := [(0, .ref v0), (1, .ref v1), (2, .int v2), (3, .int v3)]) rfl ⟨rfl, rfl, rfl, rfl, trivial⟩ (x_Y_segment_14 e c)
  · exact wp_lv (lv' := [(0, .ref v0), (1, .ref v1), (2, .int v2), (3, .int v3)]) rfl ⟨rfl, rfl, rfl, rfl, trivial⟩ (x_Y_segment_14 e c)
def cL_Y_oneSegment_5 (L : Nat) (xs : Nat → Int32) (Q : Option Value → ab_H → Prop) (v0 : Nat) (v1 : Nat) (v2 : Int32) (g : g_S) (out : (Int32) ⊕ (Int32)) : Prop := match out with
  | .inl s => wp (ab_ext L xs) J_Y_oneSegment 5 [(0, .ref v0), (1, .ref v1), (2, .int v2), (3, .int s)] [] (hp g) Q
  | .inr s => wp (ab_ext L xs) J_Y_oneSegment 25 [(0, .ref v0), (1, .ref v1), (3, .int s)] [] (hp g) Q
noncomputable def b_Y_oneSegment_5 (v0 : Nat) (v1 : Nat) (v2 : Int32) (v3 : Int32) (g : g_S) : Option ((Int32) ⊕ (Int32)) :=
  if v3 < v2 then
    (aI g 1 v1 v3).bind fun z1 =>
    (M_Y_isSegment z1 g).bind fun z2 =>
    if z2 = 0 then
      some (.inr v3)
    else
      some (.inl (v3 + 1))
  else
    some (.inr v3)
set_option maxRecDepth 20000 in
theorem y_Y_oneSegment_5 {L : Nat} {xs : Nat → Int32} {Q : Option Value → ab_H → Prop} {v0 : Nat} {v1 : Nat} {v2 : Int32} {v3 : Int32} {g : g_S} {out : (Int32) ⊕ (Int32)} (e : b_Y_oneSegment_5 v0 v1 v2 v3 g = some out) (c : cL_Y_oneSegment_5 L xs Q v0 v1 v2 g out) : wp (ab_ext L xs) J_Y_oneSegment 5 [(0, .ref v0), (1, .ref v1), (2, .int v2), (3, .int v3)] [] (hp g) Q := by
  unfold b_Y_oneSegment_5 at e
  refine wp_p (j := J_Y_oneSegment) 2 (pc' := 7) (lv' := [(0, .ref v0), (1, .ref v1), (2, .int v2), (3, .int v3)]) (st' := [.int v2, .int v3]) rfl ?_
  refine x_ge e rfl (fun e => ?_) (fun e => ?_)
  · refine wp_p (j := J_Y_oneSegment) 2 (pc' := 12) (lv' := [(0, .ref v0), (1, .ref v1), (2, .int v2), (3, .int v3)]) (st' := [.int v3, .ref v1]) rfl ?_
    refine x_aB e rfl (.inl rfl) rfl (fun z1 e => ?_)
    refine x_cs1 (As := [.int z1]) (rest := []) Value.int e rfl rfl rfl rfl rfl (fun h => d_Y_isSegment h ⟨rfl, rfl⟩) (fun z2 e => ?_)
    refine z_eq e rfl (fun e => ?_) (fun e => ?_)
    · have e := Option.some.inj e; subst e; exact wp_lv (lv' := [(0, .ref v0), (1, .ref v1), (3, .int v3)]) rfl ⟨rfl, rfl, rfl, trivial⟩ c
    · refine wp_p (j := J_Y_oneSegment) 2 (pc' := 5) (lv' := [(3, .int (v3 + 1)), (0, .ref v0), (1, .ref v1), (2, .int v2)]) (st' := []) rfl ?_
      have e := Option.some.inj e; subst e; exact wp_lv (lv' := [(0, .ref v0), (1, .ref v1), (2, .int v2), (3, .int (v3 + 1))]) rfl ⟨rfl, rfl, rfl, rfl, trivial⟩ c
  · have e := Option.some.inj e; subst e; exact wp_lv (lv' := [(0, .ref v0), (1, .ref v1), (3, .int v3)]) rfl ⟨rfl, rfl, rfl, trivial⟩ c
noncomputable def L_Y_oneSegment_5 (v0 : Nat) (v1 : Nat) (v2 : Int32) (v3 : Int32) (g : g_S) : Option (Int32) := it (fun s : Int32 => b_Y_oneSegment_5 v0 v1 v2 s g) (v3)
theorem l_Y_oneSegment_5 {L : Nat} {xs : Nat → Int32} {Q : Option Value → ab_H → Prop} {v0 : Nat} {v1 : Nat} {v2 : Int32} {v3 : Int32} {g : g_S} {r : Int32} (e : L_Y_oneSegment_5 v0 v1 v2 v3 g = some r) (c : cL_Y_oneSegment_5 L xs Q v0 v1 v2 g (.inr r)) : wp (ab_ext L xs) J_Y_oneSegment 5 [(0, .ref v0), (1, .ref v1), (2, .int v2), (3, .int v3)] [] (hp g) Q :=
  it_wp (P := fun s : Int32 => wp (ab_ext L xs) J_Y_oneSegment 5 [(0, .ref v0), (1, .ref v1), (2, .int v2), (3, .int s)] [] (hp g) Q) (E := fun r => cL_Y_oneSegment_5 L xs Q v0 v1 v2 g (.inr r)) (fun s out e c => y_Y_oneSegment_5 e (by cases out <;> exact c)) e c
theorem L_Y_oneSegment_5_eq (v0 : Nat) (v1 : Nat) (v2 : Int32) (v3 : Int32) (g : g_S) : L_Y_oneSegment_5 v0 v1 v2 v3 g = itc (b_Y_oneSegment_5 v0 v1 v2 v3 g) (fun s => L_Y_oneSegment_5 v0 v1 v2 s g) := it_eq2 (fun s : Int32 => b_Y_oneSegment_5 v0 v1 v2 s g) (v3)
noncomputable def k_Y_oneSegment_25 (v0 : Nat) (v1 : Nat) (v3 : Int32) (g : g_S) : Option (Int32 × g_S) :=
  (rI g 112 v0 15).bind fun z1 =>
  if 12 < (v3 - z1) then
    some (0, g)
  else
    (rI g 112 v0 15).bind fun z2 =>
    (rI g 112 v0 15).bind fun z3 =>
    (vc g 112 v0 (M_Y_segment v0 v1 z2 (v3 - z3) g)).bind fun g4 =>
    (wI g4 112 v0 15 v3).bind fun g5 =>
    some (1, g5)
set_option maxRecDepth 20000 in
theorem x_Y_oneSegment_25 {L : Nat} {xs : Nat → Int32} {Q : Option Value → ab_H → Prop} {v0 : Nat} {v1 : Nat} {v3 : Int32} {g : g_S} {out : Int32 × g_S} (e : k_Y_oneSegment_25 v0 v1 v3 g = some out) (c : Q (some (.int out.1)) (hp out.2)) : wp (ab_ext L xs) J_Y_oneSegment 25 [(0, .ref v0), (1, .ref v1), (3, .int v3)] [] (hp g) Q := by
  unfold k_Y_oneSegment_25 at e
  refine wp_p (j := J_Y_oneSegment) 2 (pc' := 27) (lv' := [(0, .ref v0), (1, .ref v1), (3, .int v3)]) (st' := [.ref v0, .int v3]) rfl ?_
  refine x_gI e rfl rfl fd_12_15 rfl (fun z1 e => ?_)
  refine wp_p (j := J_Y_oneSegment) 2 (pc' := 33) (lv' := [(0, .ref v0), (1, .ref v1), (3, .int v3)]) (st' := [.int 12, .int (v3 - z1)]) rfl ?_
  refine x_le e rfl (fun e => ?_) (fun e => ?_)
  · refine wp_p (j := J_Y_oneSegment) 1 (pc' := 37) (lv' := [(0, .ref v0), (1, .ref v1), (3, .int v3)]) (st' := [.int 0]) rfl ?_
    have e := Option.some.inj e; subst e; exact wp_iret (ty := .boolean) rfl rfl (by decide) c
  · refine wp_p (j := J_Y_oneSegment) 3 (pc' := 41) (lv' := [(0, .ref v0), (1, .ref v1), (3, .int v3)]) (st' := [.ref v0, .ref v1, .ref v0]) rfl ?_
    refine x_gI e rfl rfl fd_12_15 rfl (fun z2 e => ?_)
    refine wp_p (j := J_Y_oneSegment) 2 (pc' := 46) (lv' := [(0, .ref v0), (1, .ref v1), (3, .int v3)]) (st' := [.ref v0, .int v3, .int z2, .ref v1, .ref v0]) rfl ?_
    refine x_gI e rfl rfl fd_12_15 rfl (fun z3 e => ?_)
    refine wp_p (j := J_Y_oneSegment) 1 (pc' := 50) (lv' := [(0, .ref v0), (1, .ref v1), (3, .int v3)]) (st' := [.int (v3 - z3), .int z2, .ref v1, .ref v0]) rfl ?_
    refine x_cv0 (As := [.ref v1, .int z2, .int (v3 - z3)]) (rest := []) e rfl rfl rfl rfl rfl rfl (fun h => d_Y_segment h ⟨rfl, rfl⟩) (fun g4 e => ?_)
    refine wp_p (j := J_Y_oneSegment) 2 (pc' := 55) (lv' := [(0, .ref v0), (1, .ref v1), (3, .int v3)]) (st' := [.int v3, .ref v0]) rfl ?_
    refine x_pI e rfl rfl fw_12_15 rfl (fun g5 e => ?_)
    refine wp_p (j := J_Y_oneSegment) 1 (pc' := 59) (lv' := [(0, .ref v0), (1, .ref v1), (3, .int v3)]) (st' := [.int 1]) rfl ?_
    have e := Option.some.inj e; subst e; exact wp_iret (ty := .boolean) rfl rfl (by decide) c
noncomputable def M_Y_oneSegment (v0 : Nat) (v1 : Nat) (v2 : Int32) (g : g_S) : Option (Int32 × g_S) :=
  (rI g 112 v0 15).bind fun z1 =>
  (L_Y_oneSegment_5 v0 v1 v2 z1 g).bind <| fun z4 =>
  k_Y_oneSegment_25 v0 v1 z4 g
set_option maxRecDepth 20000 in
theorem d_Y_oneSegment {L : Nat} {xs : Nat → Int32} {Q : Option Value → ab_H → Prop} {v0 : Nat} {v1 : Nat} {v2 : Int32} {g : g_S} {out : Int32 × g_S} (e : M_Y_oneSegment v0 v1 v2 g = some out) (c : Q (some (.int out.1)) (hp out.2)) : mw (ab_ext L xs) J_Y_oneSegment [.ref v0, .ref v1, .int v2] (hp g) Q := by
  unfold M_Y_oneSegment at e
  refine wp_p (j := J_Y_oneSegment) 1 (pc' := 1) (lv' := [(0, .ref v0), (1, .ref v1), (2, .int v2)]) (st' := [.ref v0]) rfl ?_
  refine x_gI e rfl rfl fd_12_15 rfl (fun z1 e => ?_)
  refine wp_p (j := J_Y_oneSegment) 1 (pc' := 5) (lv' := [(3, .int z1), (0, .ref v0), (1, .ref v1), (2, .int v2)]) (st' := []) rfl ?_
  obtain ⟨z4, h3, e⟩ := bd e
  refine wp_lv (lv' := [(0, .ref v0), (1, .ref v1), (2, .int v2), (3, .int z1)]) rfl ⟨rfl, rfl, rfl, rfl, trivial⟩ ?_
  refine l_Y_oneSegment_5 h3 ?_
  show wp (ab_ext L xs) J_Y_oneSegment 25 [(0, .ref v0), (1, .ref v1), (3, .int z4)] [] (hp g) Q
  exact wp_lv (lv' := [(0, .ref v0), (1, .ref v1), (3, .int z4)]) rfl ⟨rfl, rfl, rfl, trivial⟩ (x_Y_oneSegment_25 e c)
def cL_Y_segments_0 (L : Nat) (xs : Nat → Int32) (Q : Option Value → ab_H → Prop) (v0 : Nat) (v1 : Nat) (v2 : Int32) (out : (g_S) ⊕ ((g_S) ⊕ (g_S))) : Prop := match out with
  | .inl s => wp (ab_ext L xs) J_Y_segments 0 [(0, .ref v0), (1, .ref v1), (2, .int v2)] [] (hp s) Q
  | .inr (.inl s) => wp (ab_ext L xs) J_Y_segments 38 [] [] (hp s) Q
  | .inr (.inr s) => wp (ab_ext L xs) J_Y_segments 40 [] [] (hp s) Q
noncomputable def b_Y_segments_0 (v0 : Nat) (v1 : Nat) (v2 : Int32) (g : g_S) : Option ((g_S) ⊕ ((g_S) ⊕ (g_S))) :=
  (rI g 112 v0 15).bind fun z1 =>
  if z1 < v2 then
    (rI g 112 v0 15).bind fun z2 =>
    (aI g 1 v1 z2).bind fun z3 =>
    if z3 = 47 then
      (rI g 112 v0 15).bind fun z4 =>
      (wI g 112 v0 15 (z4 + 1)).bind fun g5 =>
      c2 (vc g5 112 v0 (M_Y_oneSegment v0 v1 v2 g5)) fun z6 g7 =>
      if z6 = 0 then
        some (.inr (.inl g7))
      else
        some (.inl g7)
    else
      some (.inr (.inr g))
  else
    some (.inr (.inr g))
set_option maxRecDepth 20000 in
theorem y_Y_segments_0 {L : Nat} {xs : Nat → Int32} {Q : Option Value → ab_H → Prop} {v0 : Nat} {v1 : Nat} {v2 : Int32} {g : g_S} {out : (g_S) ⊕ ((g_S) ⊕ (g_S))} (e : b_Y_segments_0 v0 v1 v2 g = some out) (c : cL_Y_segments_0 L xs Q v0 v1 v2 out) : wp (ab_ext L xs) J_Y_segments 0 [(0, .ref v0), (1, .ref v1), (2, .int v2)] [] (hp g) Q := by
  unfold b_Y_segments_0 at e
  refine wp_p (j := J_Y_segments) 1 (pc' := 1) (lv' := [(0, .ref v0), (1, .ref v1), (2, .int v2)]) (st' := [.ref v0]) rfl ?_
  refine x_gI e rfl rfl fd_12_15 rfl (fun z1 e => ?_)
  refine wp_p (j := J_Y_segments) 1 (pc' := 5) (lv' := [(0, .ref v0), (1, .ref v1), (2, .int v2)]) (st' := [.int v2, .int z1]) rfl ?_
  refine x_ge e rfl (fun e => ?_) (fun e => ?_)
  · refine wp_p (j := J_Y_segments) 2 (pc' := 10) (lv' := [(0, .ref v0), (1, .ref v1), (2, .int v2)]) (st' := [.ref v0, .ref v1]) rfl ?_
    refine x_gI e rfl rfl fd_12_15 rfl (fun z2 e => ?_)
    refine x_aB e rfl (.inl rfl) rfl (fun z3 e => ?_)
    refine wp_p (j := J_Y_segments) 1 (pc' := 16) (lv' := [(0, .ref v0), (1, .ref v1), (2, .int v2)]) (st' := [.int 47, .int z3]) rfl ?_
    refine x_ne e rfl (fun e => ?_) (fun e => ?_)
    · refine wp_p (j := J_Y_segments) 2 (pc' := 21) (lv' := [(0, .ref v0), (1, .ref v1), (2, .int v2)]) (st' := [.ref v0, .ref v0]) rfl ?_
      refine x_gI e rfl rfl fd_12_15 rfl (fun z4 e => ?_)
      refine wp_p (j := J_Y_segments) 2 (pc' := 26) (lv' := [(0, .ref v0), (1, .ref v1), (2, .int v2)]) (st' := [.int (z4 + 1), .ref v0]) rfl ?_
      refine x_pI e rfl rfl fw_12_15 rfl (fun g5 e => ?_)
      refine wp_p (j := J_Y_segments) 3 (pc' := 32) (lv' := [(0, .ref v0), (1, .ref v1), (2, .int v2)]) (st' := [.int v2, .ref v1, .ref v0]) rfl ?_
      refine x_cv2 (As := [.ref v1, .int v2]) (rest := []) Value.int e rfl rfl rfl rfl rfl rfl (fun h => d_Y_oneSegment h ⟨rfl, rfl⟩) (fun z6 g7 e => ?_)
      refine z_ne e rfl (fun e => ?_) (fun e => ?_)
      · have e := Option.some.inj e; subst e; exact wp_lv (lv' := []) rfl trivial c
      · have e := Option.some.inj e; subst e; exact wp_lv (lv' := [(0, .ref v0), (1, .ref v1), (2, .int v2)]) rfl ⟨rfl, rfl, rfl, trivial⟩ c
    · have e := Option.some.inj e; subst e; exact wp_lv (lv' := []) rfl trivial c
  · have e := Option.some.inj e; subst e; exact wp_lv (lv' := []) rfl trivial c
noncomputable def L_Y_segments_0 (v0 : Nat) (v1 : Nat) (v2 : Int32) (g : g_S) : Option ((g_S) ⊕ (g_S)) := it (fun s : g_S => b_Y_segments_0 v0 v1 v2 s) (g)
theorem l_Y_segments_0 {L : Nat} {xs : Nat → Int32} {Q : Option Value → ab_H → Prop} {v0 : Nat} {v1 : Nat} {v2 : Int32} {g : g_S} {r : (g_S) ⊕ (g_S)} (e : L_Y_segments_0 v0 v1 v2 g = some r) (c : cL_Y_segments_0 L xs Q v0 v1 v2 (.inr r)) : wp (ab_ext L xs) J_Y_segments 0 [(0, .ref v0), (1, .ref v1), (2, .int v2)] [] (hp g) Q :=
  it_wp (P := fun s : g_S => wp (ab_ext L xs) J_Y_segments 0 [(0, .ref v0), (1, .ref v1), (2, .int v2)] [] (hp s) Q) (E := fun r => cL_Y_segments_0 L xs Q v0 v1 v2 (.inr r)) (fun s out e c => y_Y_segments_0 e (by cases out <;> exact c)) e c
theorem L_Y_segments_0_eq (v0 : Nat) (v1 : Nat) (v2 : Int32) (g : g_S) : L_Y_segments_0 v0 v1 v2 g = itc (b_Y_segments_0 v0 v1 v2 g) (fun s => L_Y_segments_0 v0 v1 v2 s) := it_eq2 (fun s : g_S => b_Y_segments_0 v0 v1 v2 s) (g)
noncomputable def M_Y_segments (v0 : Nat) (v1 : Nat) (v2 : Int32) (g : g_S) : Option (Int32 × g_S) :=
  (L_Y_segments_0 v0 v1 v2 g).bind <|
    us (fun g3 =>
    some (0, g3))
    (fun g4 =>
    some (1, g4))
set_option maxRecDepth 20000 in
theorem d_Y_segments {L : Nat} {xs : Nat → Int32} {Q : Option Value → ab_H → Prop} {v0 : Nat} {v1 : Nat} {v2 : Int32} {g : g_S} {out : Int32 × g_S} (e : M_Y_segments v0 v1 v2 g = some out) (c : Q (some (.int out.1)) (hp out.2)) : mw (ab_ext L xs) J_Y_segments [.ref v0, .ref v1, .int v2] (hp g) Q := by
  unfold M_Y_segments at e
  obtain ⟨s1, h2, e⟩ := bd e
  refine wp_lv (lv' := [(0, .ref v0), (1, .ref v1), (2, .int v2)]) rfl ⟨rfl, rfl, rfl, trivial⟩ ?_
  refine l_Y_segments_0 h2 ?_
  rcases s1 with g3 | g4
  · replace e := (us_l e)
    show wp (ab_ext L xs) J_Y_segments 38 [] [] (hp g3) Q
    refine wp_p (j := J_Y_segments) 1 (pc' := 39) (lv' := []) (st' := [.int 0]) rfl ?_
    have e := Option.some.inj e; subst e; exact wp_iret (ty := .boolean) rfl rfl (by decide) c
  · replace e := (us_r e)
    show wp (ab_ext L xs) J_Y_segments 40 [] [] (hp g4) Q
    refine wp_p (j := J_Y_segments) 1 (pc' := 41) (lv' := []) (st' := [.int 1]) rfl ?_
    have e := Option.some.inj e; subst e; exact wp_iret (ty := .boolean) rfl rfl (by decide) c
def cL_Y_siteEnd_2 (L : Nat) (xs : Nat → Int32) (Q : Option Value → ab_H → Prop) (v0 : Nat) (v1 : Int32) (g : g_S) (out : (Int32) ⊕ (Int32)) : Prop := match out with
  | .inl s => wp (ab_ext L xs) J_Y_siteEnd 2 [(0, .ref v0), (1, .int v1), (2, .int s)] [] (hp g) Q
  | .inr s => wp (ab_ext L xs) J_Y_siteEnd 25 [(2, .int s)] [] (hp g) Q
noncomputable def b_Y_siteEnd_2 (v0 : Nat) (v1 : Int32) (v2 : Int32) (g : g_S) : Option ((Int32) ⊕ (Int32)) :=
  (rQ g 112 v0 6).bind fun z1 =>
  (aI g 1 z1 ((v1 * 150) + v2)).bind fun z2 =>
  if z2 = 47 then
    some (.inr v2)
  else
    some (.inl (v2 + 1))
set_option maxRecDepth 20000 in
theorem y_Y_siteEnd_2 {L : Nat} {xs : Nat → Int32} {Q : Option Value → ab_H → Prop} {v0 : Nat} {v1 : Int32} {v2 : Int32} {g : g_S} {out : (Int32) ⊕ (Int32)} (e : b_Y_siteEnd_2 v0 v1 v2 g = some out) (c : cL_Y_siteEnd_2 L xs Q v0 v1 g out) : wp (ab_ext L xs) J_Y_siteEnd 2 [(0, .ref v0), (1, .int v1), (2, .int v2)] [] (hp g) Q := by
  unfold b_Y_siteEnd_2 at e
  refine wp_p (j := J_Y_siteEnd) 1 (pc' := 3) (lv' := [(0, .ref v0), (1, .int v1), (2, .int v2)]) (st' := [.ref v0]) rfl ?_
  refine x_gQ e rfl rfl fd_12_6 rfl (fun z1 e => ?_)
  refine wp_p (j := J_Y_siteEnd) 5 (pc' := 13) (lv' := [(0, .ref v0), (1, .int v1), (2, .int v2)]) (st' := [.int ((v1 * 150) + v2), .ref z1]) rfl ?_
  refine x_aB e rfl (.inl rfl) rfl (fun z2 e => ?_)
  refine wp_p (j := J_Y_siteEnd) 1 (pc' := 16) (lv' := [(0, .ref v0), (1, .int v1), (2, .int v2)]) (st' := [.int 47, .int z2]) rfl ?_
  refine x_eq e rfl (fun e => ?_) (fun e => ?_)
  · have e := Option.some.inj e; subst e; exact wp_lv (lv' := [(2, .int v2)]) rfl ⟨rfl, trivial⟩ c
  · refine wp_p (j := J_Y_siteEnd) 2 (pc' := 2) (lv' := [(2, .int (v2 + 1)), (0, .ref v0), (1, .int v1)]) (st' := []) rfl ?_
    have e := Option.some.inj e; subst e; exact wp_lv (lv' := [(0, .ref v0), (1, .int v1), (2, .int (v2 + 1))]) rfl ⟨rfl, rfl, rfl, trivial⟩ c
noncomputable def L_Y_siteEnd_2 (v0 : Nat) (v1 : Int32) (v2 : Int32) (g : g_S) : Option (Int32) := it (fun s : Int32 => b_Y_siteEnd_2 v0 v1 s g) (v2)
theorem l_Y_siteEnd_2 {L : Nat} {xs : Nat → Int32} {Q : Option Value → ab_H → Prop} {v0 : Nat} {v1 : Int32} {v2 : Int32} {g : g_S} {r : Int32} (e : L_Y_siteEnd_2 v0 v1 v2 g = some r) (c : cL_Y_siteEnd_2 L xs Q v0 v1 g (.inr r)) : wp (ab_ext L xs) J_Y_siteEnd 2 [(0, .ref v0), (1, .int v1), (2, .int v2)] [] (hp g) Q :=
  it_wp (P := fun s : Int32 => wp (ab_ext L xs) J_Y_siteEnd 2 [(0, .ref v0), (1, .int v1), (2, .int s)] [] (hp g) Q) (E := fun r => cL_Y_siteEnd_2 L xs Q v0 v1 g (.inr r)) (fun s out e c => y_Y_siteEnd_2 e (by cases out <;> exact c)) e c
theorem L_Y_siteEnd_2_eq (v0 : Nat) (v1 : Int32) (v2 : Int32) (g : g_S) : L_Y_siteEnd_2 v0 v1 v2 g = itc (b_Y_siteEnd_2 v0 v1 v2 g) (fun s => L_Y_siteEnd_2 v0 v1 s g) := it_eq2 (fun s : Int32 => b_Y_siteEnd_2 v0 v1 s g) (v2)
noncomputable def M_Y_siteEnd (v0 : Nat) (v1 : Int32) (g : g_S) : Option Int32 :=
  (L_Y_siteEnd_2 v0 v1 2 g).bind <| fun z3 =>
  some z3
set_option maxRecDepth 20000 in
theorem d_Y_siteEnd {L : Nat} {xs : Nat → Int32} {Q : Option Value → ab_H → Prop} {v0 : Nat} {v1 : Int32} {g : g_S} {out : Int32} (e : M_Y_siteEnd v0 v1 g = some out) (c : Q (some (.int out)) (hp g)) : mw (ab_ext L xs) J_Y_siteEnd [.ref v0, .int v1] (hp g) Q := by
  unfold M_Y_siteEnd at e
  refine wp_p (j := J_Y_siteEnd) 2 (pc' := 2) (lv' := [(2, .int 2), (0, .ref v0), (1, .int v1)]) (st' := []) rfl ?_
  obtain ⟨z3, h2, e⟩ := bd e
  refine wp_lv (lv' := [(0, .ref v0), (1, .int v1), (2, .int 2)]) rfl ⟨rfl, rfl, rfl, trivial⟩ ?_
  refine l_Y_siteEnd_2 h2 ?_
  show wp (ab_ext L xs) J_Y_siteEnd 25 [(2, .int z3)] [] (hp g) Q
  refine wp_p (j := J_Y_siteEnd) 1 (pc' := 26) (lv' := [(2, .int z3)]) (st' := [.int z3]) rfl ?_
  have e := Option.some.inj e; subst e; exact wp_iret (ty := .int) rfl rfl rfl c
def cL_Y_queryAt_2 (L : Nat) (xs : Nat → Int32) (Q : Option Value → ab_H → Prop) (v0 : Nat) (v1 : Int32) (g : g_S) (out : (Int32) ⊕ (Int32)) : Prop := match out with
  | .inl s => wp (ab_ext L xs) J_Y_queryAt 2 [(0, .ref v0), (1, .int v1), (2, .int s)] [] (hp g) Q
  | .inr s => wp (ab_ext L xs) J_Y_queryAt 35 [(2, .int s)] [] (hp g) Q
noncomputable def b_Y_queryAt_2 (v0 : Nat) (v1 : Int32) (v2 : Int32) (g : g_S) : Option ((Int32) ⊕ (Int32)) :=
  (rQ g 112 v0 7).bind fun z1 =>
  (aI g 0 z1 v1).bind fun z2 =>
  if v2 < z2 then
    (rQ g 112 v0 6).bind fun z3 =>
    (aI g 1 z3 ((v1 * 150) + v2)).bind fun z4 =>
    if z4 = 63 then
      some (.inr v2)
    else
      some (.inl (v2 + 1))
  else
    some (.inr v2)
set_option maxRecDepth 20000 in
theorem y_Y_queryAt_2 {L : Nat} {xs : Nat → Int32} {Q : Option Value → ab_H → Prop} {v0 : Nat} {v1 : Int32} {v2 : Int32} {g : g_S} {out : (Int32) ⊕ (Int32)} (e : b_Y_queryAt_2 v0 v1 v2 g = some out) (c : cL_Y_queryAt_2 L xs Q v0 v1 g out) : wp (ab_ext L xs) J_Y_queryAt 2 [(0, .ref v0), (1, .int v1), (2, .int v2)] [] (hp g) Q := by
  unfold b_Y_queryAt_2 at e
  refine wp_p (j := J_Y_queryAt) 2 (pc' := 4) (lv' := [(0, .ref v0), (1, .int v1), (2, .int v2)]) (st' := [.ref v0, .int v2]) rfl ?_
  refine x_gQ e rfl rfl fd_12_7 rfl (fun z1 e => ?_)
  refine wp_p (j := J_Y_queryAt) 1 (pc' := 8) (lv' := [(0, .ref v0), (1, .int v1), (2, .int v2)]) (st' := [.int v1, .ref z1, .int v2]) rfl ?_
  refine x_aI e rfl rfl (fun z2 e => ?_)
  refine x_ge e rfl (fun e => ?_) (fun e => ?_)
  · refine wp_p (j := J_Y_queryAt) 1 (pc' := 13) (lv' := [(0, .ref v0), (1, .int v1), (2, .int v2)]) (st' := [.ref v0]) rfl ?_
    refine x_gQ e rfl rfl fd_12_6 rfl (fun z3 e => ?_)
    refine wp_p (j := J_Y_queryAt) 5 (pc' := 23) (lv' := [(0, .ref v0), (1, .int v1), (2, .int v2)]) (st' := [.int ((v1 * 150) + v2), .ref z3]) rfl ?_
    refine x_aB e rfl (.inl rfl) rfl (fun z4 e => ?_)
    refine wp_p (j := J_Y_queryAt) 1 (pc' := 26) (lv' := [(0, .ref v0), (1, .int v1), (2, .int v2)]) (st' := [.int 63, .int z4]) rfl ?_
    refine x_eq e rfl (fun e => ?_) (fun e => ?_)
    · have e := Option.some.inj e; subst e; exact wp_lv (lv' := [(2, .int v2)]) rfl ⟨rfl, trivial⟩ c
    · refine wp_p (j := J_Y_queryAt) 2 (pc' := 2) (lv' := [(2, .int (v2 + 1)), (0, .ref v0), (1, .int v1)]) (st' := []) rfl ?_
      have e := Option.some.inj e; subst e; exact wp_lv (lv' := [(0, .ref v0), (1, .int v1), (2, .int (v2 + 1))]) rfl ⟨rfl, rfl, rfl, trivial⟩ c
  · have e := Option.some.inj e; subst e; exact wp_lv (lv' := [(2, .int v2)]) rfl ⟨rfl, trivial⟩ c
noncomputable def L_Y_queryAt_2 (v0 : Nat) (v1 : Int32) (v2 : Int32) (g : g_S) : Option (Int32) := it (fun s : Int32 => b_Y_queryAt_2 v0 v1 s g) (v2)
theorem l_Y_queryAt_2 {L : Nat} {xs : Nat → Int32} {Q : Option Value → ab_H → Prop} {v0 : Nat} {v1 : Int32} {v2 : Int32} {g : g_S} {r : Int32} (e : L_Y_queryAt_2 v0 v1 v2 g = some r) (c : cL_Y_queryAt_2 L xs Q v0 v1 g (.inr r)) : wp (ab_ext L xs) J_Y_queryAt 2 [(0, .ref v0), (1, .int v1), (2, .int v2)] [] (hp g) Q :=
  it_wp (P := fun s : Int32 => wp (ab_ext L xs) J_Y_queryAt 2 [(0, .ref v0), (1, .int v1), (2, .int s)] [] (hp g) Q) (E := fun r => cL_Y_queryAt_2 L xs Q v0 v1 g (.inr r)) (fun s out e c => y_Y_queryAt_2 e (by cases out <;> exact c)) e c
theorem L_Y_queryAt_2_eq (v0 : Nat) (v1 : Int32) (v2 : Int32) (g : g_S) : L_Y_queryAt_2 v0 v1 v2 g = itc (b_Y_queryAt_2 v0 v1 v2 g) (fun s => L_Y_queryAt_2 v0 v1 s g) := it_eq2 (fun s : Int32 => b_Y_queryAt_2 v0 v1 s g) (v2)
noncomputable def M_Y_queryAt (v0 : Nat) (v1 : Int32) (g : g_S) : Option Int32 :=
  (L_Y_queryAt_2 v0 v1 0 g).bind <| fun z3 =>
  some z3
set_option maxRecDepth 20000 in
theorem d_Y_queryAt {L : Nat} {xs : Nat → Int32} {Q : Option Value → ab_H → Prop} {v0 : Nat} {v1 : Int32} {g : g_S} {out : Int32} (e : M_Y_queryAt v0 v1 g = some out) (c : Q (some (.int out)) (hp g)) : mw (ab_ext L xs) J_Y_queryAt [.ref v0, .int v1] (hp g) Q := by
  unfold M_Y_queryAt at e
  refine wp_p (j := J_Y_queryAt) 2 (pc' := 2) (lv' := [(2, .int 0), (0, .ref v0), (1, .int v1)]) (st' := []) rfl ?_
  obtain ⟨z3, h2, e⟩ := bd e
  refine wp_lv (lv' := [(0, .ref v0), (1, .int v1), (2, .int 0)]) rfl ⟨rfl, rfl, rfl, trivial⟩ ?_
  refine l_Y_queryAt_2 h2 ?_
  show wp (ab_ext L xs) J_Y_queryAt 35 [(2, .int z3)] [] (hp g) Q
  refine wp_p (j := J_Y_queryAt) 1 (pc' := 36) (lv' := [(2, .int z3)]) (st' := [.int z3]) rfl ?_
  have e := Option.some.inj e; subst e; exact wp_iret (ty := .int) rfl rfl rfl c
def cL_Y_baseSegments_24 (L : Nat) (xs : Nat → Int32) (Q : Option Value → ab_H → Prop) (v0 : Nat) (v1 : Int32) (v2 : Int32) (v3 : Int32) (v4 : Int32) (g : g_S) (out : (Int32) ⊕ (Int32)) : Prop := match out with
  | .inl s => wp (ab_ext L xs) J_Y_baseSegments 24 [(0, .ref v0), (1, .int v1), (2, .int v2), (3, .int v3), (4, .int v4), (5, .int s)] [] (hp g) Q
  | .inr s => wp (ab_ext L xs) J_Y_baseSegments 55 [(0, .ref v0), (1, .int v1), (2, .int v2), (3, .int v3), (4, .int v4), (5, .int s)] [] (hp g) Q
noncomputable def b_Y_baseSegments_24 (v0 : Nat) (v1 : Int32) (v2 : Int32) (v3 : Int32) (v4 : Int32) (v5 : Int32) (g : g_S) : Option ((Int32) ⊕ (Int32)) :=
  if v5 < v4 then
    (rQ g 112 v0 6).bind fun z1 =>
    (aI g 1 z1 ((v1 * 150) + v5)).bind fun z2 =>
    if z2 = 47 then
      some (.inr v5)
    else
      some (.inl (v5 + 1))
  else
    some (.inr v5)
set_option maxRecDepth 20000 in
theorem y_Y_baseSegments_24 {L : Nat} {xs : Nat → Int32} {Q : Option Value → ab_H → Prop} {v0 : Nat} {v1 : Int32} {v2 : Int32} {v3 : Int32} {v4 : Int32} {v5 : Int32} {g : g_S} {out : (Int32) ⊕ (Int32)} (e : b_Y_baseSegments_24 v0 v1 v2 v3 v4 v5 g = some out) (c : cL_Y_baseSegments_24 L xs Q v0 v1 v2 v3 v4 g out) : wp (ab_ext L xs) J_Y_baseSegments 24 [(0, .ref v0), (1, .int v1), (2, .int v2), (3, .int v3), (4, .int v4), (5, .int v5)] [] (hp g) Q := by
  unfold b_Y_baseSegments_24 at e
  refine wp_p (j := J_Y_baseSegments) 2 (pc' := 28) (lv' := [(0, .ref v0), (1, .int v1), (2, .int v2), (3, .int v3), (4, .int v4), (5, .int v5)]) (st' := [.int v4, .int v5]) rfl ?_
  refine x_ge e rfl (fun e => ?_) (fun e => ?_)
  · refine wp_p (j := J_Y_baseSegments) 1 (pc' := 32) (lv' := [(0, .ref v0), (1, .int v1), (2, .int v2), (3, .int v3), (4, .int v4), (5, .int v5)]) (st' := [.ref v0]) rfl ?_
    refine x_gQ e rfl rfl fd_12_6 rfl (fun z1 e => ?_)
    refine wp_p (j := J_Y_baseSegments) 5 (pc' := 43) (lv' := [(0, .ref v0), (1, .int v1), (2, .int v2), (3, .int v3), (4, .int v4), (5, .int v5)]) (st' := [.int ((v1 * 150) + v5), .ref z1]) rfl ?_
    refine x_aB e rfl (.inl rfl) rfl (fun z2 e => ?_)
    refine wp_p (j := J_Y_baseSegments) 1 (pc' := 46) (lv' := [(0, .ref v0), (1, .int v1), (2, .int v2), (3, .int v3), (4, .int v4), (5, .int v5)]) (st' := [.int 47, .int z2]) rfl ?_
    refine x_eq e rfl (fun e => ?_) (fun e => ?_)
    · have e := Option.some.inj e; subst e; exact wp_lv (lv' := [(0, .ref v0), (1, .int v1), (2, .int v2), (3, .int v3), (4, .int v4), (5, .int v5)]) rfl ⟨rfl, rfl, rfl, rfl, rfl, rfl, trivial⟩ c
    · refine wp_p (j := J_Y_baseSegments) 2 (pc' := 24) (lv' := [(5, .int (v5 + 1)), (0, .ref v0), (1, .int v1), (2, .int v2), (3, .int v3), (4, .int v4)]) (st' := []) rfl ?_
      have e := Option.some.inj e; subst e; exact wp_lv (lv' := [(0, .ref v0), (1, .int v1), (2, .int v2), (3, .int v3), (4, .int v4), (5, .int (v5 + 1))]) rfl ⟨rfl, rfl, rfl, rfl, rfl, rfl, trivial⟩ c
  · have e := Option.some.inj e; subst e; exact wp_lv (lv' := [(0, .ref v0), (1, .int v1), (2, .int v2), (3, .int v3), (4, .int v4), (5, .int v5)]) rfl ⟨rfl, rfl, rfl, rfl, rfl, rfl, trivial⟩ c
noncomputable def L_Y_baseSegments_24 (v0 : Nat) (v1 : Int32) (v2 : Int32) (v3 : Int32) (v4 : Int32) (v5 : Int32) (g : g_S) : Option (Int32) := it (fun s : Int32 => b_Y_baseSegments_24 v0 v1 v2 v3 v4 s g) (v5)
theorem l_Y_baseSegments_24 {L : Nat} {xs : Nat → Int32} {Q : Option Value → ab_H → Prop} {v0 : Nat} {v1 : Int32} {v2 : Int32} {v3 : Int32} {v4 : Int32} {v5 : Int32} {g : g_S} {r : Int32} (e : L_Y_baseSegments_24 v0 v1 v2 v3 v4 v5 g = some r) (c : cL_Y_baseSegments_24 L xs Q v0 v1 v2 v3 v4 g (.inr r)) : wp (ab_ext L xs) J_Y_baseSegments 24 [(0, .ref v0), (1, .int v1), (2, .int v2), (3, .int v3), (4, .int v4), (5, .int v5)] [] (hp g) Q :=
  it_wp (P := fun s : Int32 => wp (ab_ext L xs) J_Y_baseSegments 24 [(0, .ref v0), (1, .int v1), (2, .int v2), (3, .int v3), (4, .int v4), (5, .int s)] [] (hp g) Q) (E := fun r => cL_Y_baseSegments_24 L xs Q v0 v1 v2 v3 v4 g (.inr r)) (fun s out e c => y_Y_baseSegments_24 e (by cases out <;> exact c)) e c
theorem L_Y_baseSegments_24_eq (v0 : Nat) (v1 : Int32) (v2 : Int32) (v3 : Int32) (v4 : Int32) (v5 : Int32) (g : g_S) : L_Y_baseSegments_24 v0 v1 v2 v3 v4 v5 g = itc (b_Y_baseSegments_24 v0 v1 v2 v3 v4 v5 g) (fun s => L_Y_baseSegments_24 v0 v1 v2 v3 v4 s g) := it_eq2 (fun s : Int32 => b_Y_baseSegments_24 v0 v1 v2 v3 v4 s g) (v5)
def cL_Y_baseSegments_13 (L : Nat) (xs : Nat → Int32) (Q : Option Value → ab_H → Prop) (v0 : Nat) (v1 : Int32) (v2 : Int32) (v4 : Int32) (out : (Int32 × g_S) ⊕ (g_S)) : Prop := match out with
  | .inl s => wp (ab_ext L xs) J_Y_baseSegments 13 [(0, .ref v0), (1, .int v1), (2, .int v2), (3, .int s.1), (4, .int v4)] [] (hp s.2) Q
  | .inr s => wp (ab_ext L xs) J_Y_baseSegments 95 [] [] (hp s) Q
noncomputable def k_Y_baseSegments_66 (v0 : Nat) (v1 : Int32) (v2 : Int32) (v3 : Int32) (v4 : Int32) (v5 : Int32) (g : g_S) : Option ((Int32 × g_S) ⊕ (g_S)) :=
  (rQ g 112 v0 6).bind fun z1 =>
  (vc g 112 v0 (M_Y_segment v0 z1 (((v1 * 150) + v3) + 1) ((v5 - v3) - 1) g)).bind fun g2 =>
  some (.inl (v5, g2))
set_option maxRecDepth 20000 in
theorem x_Y_baseSegments_66 {L : Nat} {xs : Nat → Int32} {Q : Option Value → ab_H → Prop} {v0 : Nat} {v1 : Int32} {v2 : Int32} {v3 : Int32} {v4 : Int32} {v5 : Int32} {g : g_S} {out : (Int32 × g_S) ⊕ (g_S)} (e : k_Y_baseSegments_66 v0 v1 v2 v3 v4 v5 g = some out) (c : cL_Y_baseSegments_13 L xs Q v0 v1 v2 v4 out) : wp (ab_ext L xs) J_Y_baseSegments 66 [(0, .ref v0), (1, .int v1), (2, .int v2), (3, .int v3), (4, .int v4), (5, .int v5)] [] (hp g) Q := by
  unfold k_Y_baseSegments_66 at e
  refine wp_p (j := J_Y_baseSegments) 2 (pc' := 68) (lv' := [(0, .ref v0), (1, .int v1), (2, .int v2), (3, .int v3), (4, .int v4), (5, .int v5)]) (st' := [.ref v0, .ref v0]) rfl ?_
  refine x_gQ e rfl rfl fd_12_6 rfl (fun z1 e => ?_)
  refine wp_p (j := J_Y_baseSegments) 12 (pc' := 86) (lv' := [(0, .ref v0), (1, .int v1), (2, .int v2), (3, .int v3), (4, .int v4), (5, .int v5)]) (st' := [.int ((v5 - v3) - 1), .int (((v1 * 150) + v3) + 1), .ref z1, .ref v0]) rfl ?_
  refine x_cv0 (As := [.ref z1, .int (((v1 * 150) + v3) + 1), .int ((v5 - v3) - 1)]) (rest := []) e rfl rfl rfl rfl rfl rfl (fun h => d_Y_segment h ⟨rfl, rfl⟩) (fun g2 e => ?_)
  refine wp_p (j := J_Y_baseSegments) 3 (pc' := 13) (lv' := [(3, .int v5), (0, .ref v0), (1, .int v1), (2, .int v2), (4, .int v4), (5, .int v5)]) (st' := []) rfl ?_
  have e := Option.some.inj e; subst e; exact wp_lv (lv' := [(0, .ref v0), (1, .int v1), (2, .int v2), (3, .int v5), (4, .int v4)]) rfl ⟨rfl, rfl, rfl, rfl, rfl, trivial⟩ c
noncomputable def k_Y_baseSegments_55 (v0 : Nat) (v1 : Int32) (v2 : Int32) (v3 : Int32) (v4 : Int32) (v5 : Int32) (g : g_S) : Option ((Int32 × g_S) ⊕ (g_S)) :=
  if v2 = 0 then
    if v5 < v4 then
      k_Y_baseSegments_66 v0 v1 v2 v3 v4 v5 g
    else
      some (.inl (v5, g))
  else
    k_Y_baseSegments_66 v0 v1 v2 v3 v4 v5 g
set_option maxRecDepth 20000 in
theorem x_Y_baseSegments_55 {L : Nat} {xs : Nat → Int32} {Q : Option Value → ab_H → Prop} {v0 : Nat} {v1 : Int32} {v2 : Int32} {v3 : Int32} {v4 : Int32} {v5 : Int32} {g : g_S} {out : (Int32 × g_S) ⊕ (g_S)} (e : k_Y_baseSegments_55 v0 v1 v2 v3 v4 v5 g = some out) (c : cL_Y_baseSegments_13 L xs Q v0 v1 v2 v4 out) : wp (ab_ext L xs) J_Y_baseSegments 55 [(0, .ref v0), (1, .int v1), (2, .int v2), (3, .int v3), (4, .int v4), (5, .int v5)] [] (hp g) Q := by
  unfold k_Y_baseSegments_55 at e
  refine wp_p (j := J_Y_baseSegments) 1 (pc' := 56) (lv' := [(0, .ref v0), (1, .int v1), (2, .int v2), (3, .int v3), (4, .int v4), (5, .int v5)]) (st' := [.int v2]) rfl ?_
  refine z_ne e rfl (fun e => ?_) (fun e => ?_)
  · refine wp_p (j := J_Y_baseSegments) 2 (pc' := 63) (lv' := [(0, .ref v0), (1, .int v1), (2, .int v2), (3, .int v3), (4, .int v4), (5, .int v5)]) (st' := [.int v4, .int v5]) rfl ?_
    refine x_ge e rfl (fun e => ?_) (fun e => ?_)
    · exact wp_lv (lv' := [(0, .ref v0), (1, .int v1), (2, .int v2), (3, .int v3), (4, .int v4), (5, .int v5)]) rfl ⟨rfl, rfl, rfl, rfl, rfl, rfl, trivial⟩ (x_Y_baseSegments_66 e c)
    · refine wp_p (j := J_Y_baseSegments) 3 (pc' := 13) (lv' := [(3, .int v5), (0, .ref v0), (1, .int v1), (2, .int v2), (4, .int v4), (5, .int v5)]) (st' := []) rfl ?_
      have e := Option.some.inj e; subst e; exact wp_lv (lv' := [(0, .ref v0), (1, .int v1), (2, .int v2), (3, .int v5), (4, .int v4)]) rfl ⟨rfl, rfl, rfl, rfl, rfl, trivial⟩ c
  · exact wp_lv (lv' := [(0, .ref v0), (1, .int v1), (2, .int v2), (3, .int v3), (4, .int v4), (5, .int v5)]) rfl ⟨rfl, rfl, rfl, rfl, rfl, rfl, trivial⟩ (x_Y_baseSegments_66 e c)
noncomputable def b_Y_baseSegments_13 (v0 : Nat) (v1 : Int32) (v2 : Int32) (v4 : Int32) (v3 : Int32) (g : g_S) : Option ((Int32 × g_S) ⊕ (g_S)) :=
  if v3 < v4 then
    (L_Y_baseSegments_24 v0 v1 v2 v3 v4 (v3 + 1) g).bind <| fun z3 =>
    k_Y_baseSegments_55 v0 v1 v2 v3 v4 z3 g
  else
    some (.inr g)
set_option maxRecDepth 20000 in
theorem y_Y_baseSegments_13 {L : Nat} {xs : Nat → Int32} {Q : Option Value → ab_H → Prop} {v0 : Nat} {v1 : Int32} {v2 : Int32} {v4 : Int32} {v3 : Int32} {g : g_S} {out : (Int32 × g_S) ⊕ (g_S)} (e : b_Y_baseSegments_13 v0 v1 v2 v4 v3 g = some out) (c : cL_Y_baseSegments_13 L xs Q v0 v1 v2 v4 out) : wp (ab_ext L xs) J_Y_baseSegments 13 [(0, .ref v0), (1, .int v1), (2, .int v2), (3, .int v3), (4, .int v4)] [] (hp g) Q := by
  unfold b_Y_baseSegments_13 at e
  refine wp_p (j := J_Y_baseSegments) 2 (pc' := 16) (lv' := [(0, .ref v0), (1, .int v1), (2, .int v2), (3, .int v3), (4, .int v4)]) (st' := [.int v4, .int v3]) rfl ?_
  refine x_ge e rfl (fun e => ?_) (fun e => ?_)
  · refine wp_p (j := J_Y_baseSegments) 4 (pc' := 24) (lv' := [(5, .int (v3 + 1)), (0, .ref v0), (1, .int v1), (2, .int v2), (3, .int v3), (4, .int v4)]) (st' := []) rfl ?_
    obtain ⟨z3, h2, e⟩ := bd e
    refine wp_lv (lv' := [(0, .ref v0), (1, .int v1), (2, .int v2), (3, .int v3), (4, .int v4), (5, .int (v3 + 1))]) rfl ⟨rfl, rfl, rfl, rfl, rfl, rfl, trivial⟩ ?_
    refine l_Y_baseSegments_24 h2 ?_
    show wp (ab_ext L xs) J_Y_baseSegments 55 [(0, .ref v0), (1, .int v1), (2, .int v2), (3, .int v3), (4, .int v4), (5, .int z3)] [] (hp g) Q
    exact wp_lv (lv' := [(0, .ref v0), (1, .int v1), (2, .int v2), (3, .int v3), (4, .int v4), (5, .int z3)]) rfl ⟨rfl, rfl, rfl, rfl, rfl, rfl, trivial⟩ (x_Y_baseSegments_55 e c)
  · have e := Option.some.inj e; subst e; exact wp_lv (lv' := []) rfl trivial c
noncomputable def L_Y_baseSegments_13 (v0 : Nat) (v1 : Int32) (v2 : Int32) (v4 : Int32) (v3 : Int32) (g : g_S) : Option (g_S) := it (fun s : Int32 × g_S => b_Y_baseSegments_13 v0 v1 v2 v4 s.1 s.2) (v3, g)
theorem l_Y_baseSegments_13 {L : Nat} {xs : Nat → Int32} {Q : Option Value → ab_H → Prop} {v0 : Nat} {v1 : Int32} {v2 : Int32} {v4 : Int32} {v3 : Int32} {g : g_S} {r : g_S} (e : L_Y_baseSegments_13 v0 v1 v2 v4 v3 g = some r) (c : cL_Y_baseSegments_13 L xs Q v0 v1 v2 v4 (.inr r)) : wp (ab_ext L xs) J_Y_baseSegments 13 [(0, .ref v0), (1, .int v1), (2, .int v2), (3, .int v3), (4, .int v4)] [] (hp g) Q :=
  it_wp (P := fun s : Int32 × g_S => wp (ab_ext L xs) J_Y_baseSegments 13 [(0, .ref v0), (1, .int v1), (2, .int v2), (3, .int s.1), (4, .int v4)] [] (hp s.2) Q) (E := fun r => cL_Y_baseSegments_13 L xs Q v0 v1 v2 v4 (.inr r)) (fun s out e c => y_Y_baseSegments_13 e (by cases out <;> exact c)) e c
theorem L_Y_baseSegments_13_eq (v0 : Nat) (v1 : Int32) (v2 : Int32) (v4 : Int32) (v3 : Int32) (g : g_S) : L_Y_baseSegments_13 v0 v1 v2 v4 v3 g = itc (b_Y_baseSegments_13 v0 v1 v2 v4 v3 g) (fun s => L_Y_baseSegments_13 v0 v1 v2 v4 s.1 s.2) := it_eq2 (fun s : Int32 × g_S => b_Y_baseSegments_13 v0 v1 v2 v4 s.1 s.2) (v3, g)
noncomputable def M_Y_baseSegments (v0 : Nat) (v1 : Int32) (v2 : Int32) (g : g_S) : Option g_S :=
  (vc g 112 v0 (M_Y_siteEnd v0 v1 g)).bind fun z1 =>
  (vc g 112 v0 (M_Y_queryAt v0 v1 g)).bind fun z2 =>
  (L_Y_baseSegments_13 v0 v1 v2 z2 z1 g).bind <| fun g5 =>
  some g5
set_option maxRecDepth 20000 in
theorem d_Y_baseSegments {L : Nat} {xs : Nat → Int32} {Q : Option Value → ab_H → Prop} {v0 : Nat} {v1 : Int32} {v2 : Int32} {g : g_S} {out : g_S} (e : M_Y_baseSegments v0 v1 v2 g = some out) (c : Q none (hp out)) : mw (ab_ext L xs) J_Y_baseSegments [.ref v0, .int v1, .int v2] (hp g) Q := by
  unfold M_Y_baseSegments at e
  refine wp_p (j := J_Y_baseSegments) 2 (pc' := 2) (lv' := [(0, .ref v0), (1, .int v1), (2, .int v2)]) (st' := [.int v1, .ref v0]) rfl ?_
  refine x_cv1 (As := [.int v1]) (rest := []) Value.int e rfl rfl rfl rfl rfl rfl (fun h => d_Y_siteEnd h ⟨rfl, rfl⟩) (fun z1 e => ?_)
  refine wp_p (j := J_Y_baseSegments) 3 (pc' := 8) (lv' := [(3, .int z1), (0, .ref v0), (1, .int v1), (2, .int v2)]) (st' := [.int v1, .ref v0]) rfl ?_
  refine x_cv1 (As := [.int v1]) (rest := []) Value.int e rfl rfl rfl rfl rfl rfl (fun h => d_Y_queryAt h ⟨rfl, rfl⟩) (fun z2 e => ?_)
  refine wp_p (j := J_Y_baseSegments) 1 (pc' := 13) (lv' := [(4, .int z2), (3, .int z1), (0, .ref v0), (1, .int v1), (2, .int v2)]) (st' := []) rfl ?_
  obtain ⟨g5, h4, e⟩ := bd e
  refine wp_lv (lv' := [(0, .ref v0), (1, .int v1), (2, .int v2), (3, .int z1), (4, .int z2)]) rfl ⟨rfl, rfl, rfl, rfl, rfl, trivial⟩ ?_
  refine l_Y_baseSegments_13 h4 ?_
  show wp (ab_ext L xs) J_Y_baseSegments 95 [] [] (hp g5) Q
  have e := Option.some.inj e; subst e; exact wp_vret rfl rfl c
noncomputable def M_Y_isQuery (v0 : Int32) (g : g_S) : Option Int32 :=
  (M_Y_isSegment v0 g).bind fun z1 =>
  if z1 = 0 then
    if v0 = 61 then
      some 1
    else
      if v0 = 38 then
        some 1
      else
        if v0 = 43 then
          some 1
        else
          some 0
  else
    some 1
set_option maxRecDepth 20000 in
theorem d_Y_isQuery {L : Nat} {xs : Nat → Int32} {Q : Option Value → ab_H → Prop} {v0 : Int32} {g : g_S} {out : Int32} (e : M_Y_isQuery v0 g = some out) (c : Q (some (.int out)) (hp g)) : mw (ab_ext L xs) J_Y_isQuery [.int v0] (hp g) Q := by
  unfold M_Y_isQuery at e
  refine wp_p (j := J_Y_isQuery) 1 (pc' := 1) (lv' := [(0, .int v0)]) (st' := [.int v0]) rfl ?_
  refine x_cs1 (As := [.int v0]) (rest := []) Value.int e rfl rfl rfl rfl rfl (fun h => d_Y_isSegment h ⟨rfl, rfl⟩) (fun z1 e => ?_)
  refine z_ne e rfl (fun e => ?_) (fun e => ?_)
  · refine wp_p (j := J_Y_isQuery) 2 (pc' := 10) (lv' := [(0, .int v0)]) (st' := [.int 61, .int v0]) rfl ?_
    refine x_eq e rfl (fun e => ?_) (fun e => ?_)
    · refine wp_p (j := J_Y_isQuery) 2 (pc' := 30) (lv' := [(0, .int v0)]) (st' := [.int 1]) rfl ?_
      have e := Option.some.inj e; subst e; exact wp_iret (ty := .boolean) rfl rfl (by decide) c
    · refine wp_p (j := J_Y_isQuery) 2 (pc' := 16) (lv' := [(0, .int v0)]) (st' := [.int 38, .int v0]) rfl ?_
      refine x_eq e rfl (fun e => ?_) (fun e => ?_)
      · refine wp_p (j := J_Y_isQuery) 2 (pc' := 30) (lv' := [(0, .int v0)]) (st' := [.int 1]) rfl ?_
        have e := Option.some.inj e; subst e; exact wp_iret (ty := .boolean) rfl rfl (by decide) c
      · refine wp_p (j := J_Y_isQuery) 2 (pc' := 22) (lv' := [(0, .int v0)]) (st' := [.int 43, .int v0]) rfl ?_
        refine x_ne e rfl (fun e => ?_) (fun e => ?_)
        · refine wp_p (j := J_Y_isQuery) 2 (pc' := 30) (lv' := [(0, .int v0)]) (st' := [.int 1]) rfl ?_
          have e := Option.some.inj e; subst e; exact wp_iret (ty := .boolean) rfl rfl (by decide) c
        · refine wp_p (j := J_Y_isQuery) 1 (pc' := 30) (lv' := [(0, .int v0)]) (st' := [.int 0]) rfl ?_
          have e := Option.some.inj e; subst e; exact wp_iret (ty := .boolean) rfl rfl (by decide) c
  · refine wp_p (j := J_Y_isQuery) 2 (pc' := 30) (lv' := [(0, .int v0)]) (st' := [.int 1]) rfl ?_
    have e := Option.some.inj e; subst e; exact wp_iret (ty := .boolean) rfl rfl (by decide) c
def cL_Y_query_27 (L : Nat) (xs : Nat → Int32) (Q : Option Value → ab_H → Prop) (v0 : Nat) (v1 : Nat) (v2 : Int32) (g : g_S) (out : (Int32) ⊕ (Int32)) : Prop := match out with
  | .inl s => wp (ab_ext L xs) J_Y_query 27 [(0, .ref v0), (1, .ref v1), (2, .int v2), (5, .int s)] [] (hp g) Q
  | .inr s => wp (ab_ext L xs) J_Y_query 49 [(0, .ref v0), (1, .ref v1), (2, .int v2), (5, .int s)] [] (hp g) Q
noncomputable def b_Y_query_27 (v0 : Nat) (v1 : Nat) (v2 : Int32) (v5 : Int32) (g : g_S) : Option ((Int32) ⊕ (Int32)) :=
  if v5 < v2 then
    (aI g 1 v1 v5).bind fun z1 =>
    (M_Y_isQuery z1 g).bind fun z2 =>
    if z2 = 0 then
      some (.inr v5)
    else
      some (.inl (v5 + 1))
  else
    some (.inr v5)
set_option maxRecDepth 20000 in
theorem y_Y_query_27 {L : Nat} {xs : Nat → Int32} {Q : Option Value → ab_H → Prop} {v0 : Nat} {v1 : Nat} {v2 : Int32} {v5 : Int32} {g : g_S} {out : (Int32) ⊕ (Int32)} (e : b_Y_query_27 v0 v1 v2 v5 g = some out) (c : cL_Y_query_27 L xs Q v0 v1 v2 g out) : wp (ab_ext L xs) J_Y_query 27 [(0, .ref v0), (1, .ref v1), (2, .int v2), (5, .int v5)] [] (hp g) Q := by
  unfold b_Y_query_27 at e
  refine wp_p (j := J_Y_query) 2 (pc' := 30) (lv' := [(0, .ref v0), (1, .ref v1), (2, .int v2), (5, .int v5)]) (st' := [.int v2, .int v5]) rfl ?_
  refine x_ge e rfl (fun e => ?_) (fun e => ?_)
  · refine wp_p (j := J_Y_query) 2 (pc' := 36) (lv' := [(0, .ref v0), (1, .ref v1), (2, .int v2), (5, .int v5)]) (st' := [.int v5, .ref v1]) rfl ?_
    refine x_aB e rfl (.inl rfl) rfl (fun z1 e => ?_)
    refine x_cs1 (As := [.int z1]) (rest := []) Value.int e rfl rfl rfl rfl rfl (fun h => d_Y_isQuery h ⟨rfl, rfl⟩) (fun z2 e => ?_)
    refine z_eq e rfl (fun e => ?_) (fun e => ?_)
    · have e := Option.some.inj e; subst e; exact wp_lv (lv' := [(0, .ref v0), (1, .ref v1), (2, .int v2), (5, .int v5)]) rfl ⟨rfl, rfl, rfl, rfl, trivial⟩ c
    · refine wp_p (j := J_Y_query) 2 (pc' := 27) (lv' := [(5, .int (v5 + 1)), (0, .ref v0), (1, .ref v1), (2, .int v2)]) (st' := []) rfl ?_
      have e := Option.some.inj e; subst e; exact wp_lv (lv' := [(0, .ref v0), (1, .ref v1), (2, .int v2), (5, .int (v5 + 1))]) rfl ⟨rfl, rfl, rfl, rfl, trivial⟩ c
  · have e := Option.some.inj e; subst e; exact wp_lv (lv' := [(0, .ref v0), (1, .ref v1), (2, .int v2), (5, .int v5)]) rfl ⟨rfl, rfl, rfl, rfl, trivial⟩ c
noncomputable def L_Y_query_27 (v0 : Nat) (v1 : Nat) (v2 : Int32) (v5 : Int32) (g : g_S) : Option (Int32) := it (fun s : Int32 => b_Y_query_27 v0 v1 v2 s g) (v5)
theorem l_Y_query_27 {L : Nat} {xs : Nat → Int32} {Q : Option Value → ab_H → Prop} {v0 : Nat} {v1 : Nat} {v2 : Int32} {v5 : Int32} {g : g_S} {r : Int32} (e : L_Y_query_27 v0 v1 v2 v5 g = some r) (c : cL_Y_query_27 L xs Q v0 v1 v2 g (.inr r)) : wp (ab_ext L xs) J_Y_query 27 [(0, .ref v0), (1, .ref v1), (2, .int v2), (5, .int v5)] [] (hp g) Q :=
  it_wp (P := fun s : Int32 => wp (ab_ext L xs) J_Y_query 27 [(0, .ref v0), (1, .ref v1), (2, .int v2), (5, .int s)] [] (hp g) Q) (E := fun r => cL_Y_query_27 L xs Q v0 v1 v2 g (.inr r)) (fun s out e c => y_Y_query_27 e (by cases out <;> exact c)) e c
theorem L_Y_query_27_eq (v0 : Nat) (v1 : Nat) (v2 : Int32) (v5 : Int32) (g : g_S) : L_Y_query_27 v0 v1 v2 v5 g = itc (b_Y_query_27 v0 v1 v2 v5 g) (fun s => L_Y_query_27 v0 v1 v2 s g) := it_eq2 (fun s : Int32 => b_Y_query_27 v0 v1 v2 s g) (v5)
def cL_Y_query_71 (L : Nat) (xs : Nat → Int32) (Q : Option Value → ab_H → Prop) (v0 : Nat) (v1 : Nat) (v2 : Int32) (v5 : Int32) (out : (Int32 × g_S) ⊕ (g_S)) : Prop := match out with
  | .inl s => wp (ab_ext L xs) J_Y_query 71 [(0, .ref v0), (1, .ref v1), (2, .int v2), (5, .int v5), (6, .int s.1)] [] (hp s.2) Q
  | .inr s => wp (ab_ext L xs) J_Y_query 93 [(0, .ref v0), (1, .ref v1), (2, .int v2), (5, .int v5)] [] (hp s) Q
noncomputable def b_Y_query_71 (v0 : Nat) (v1 : Nat) (v2 : Int32) (v5 : Int32) (v6 : Int32) (g : g_S) : Option ((Int32 × g_S) ⊕ (g_S)) :=
  if v6 < v5 then
    (aI g 1 v1 v6).bind fun z1 =>
    (vc g 112 v0 (M_Y_put v0 0 z1 g)).bind fun g2 =>
    some (.inl (v6 + 1, g2))
  else
    some (.inr g)
set_option maxRecDepth 20000 in
theorem y_Y_query_71 {L : Nat} {xs : Nat → Int32} {Q : Option Value → ab_H → Prop} {v0 : Nat} {v1 : Nat} {v2 : Int32} {v5 : Int32} {v6 : Int32} {g : g_S} {out : (Int32 × g_S) ⊕ (g_S)} (e : b_Y_query_71 v0 v1 v2 v5 v6 g = some out) (c : cL_Y_query_71 L xs Q v0 v1 v2 v5 out) : wp (ab_ext L xs) J_Y_query 71 [(0, .ref v0), (1, .ref v1), (2, .int v2), (5, .int v5), (6, .int v6)] [] (hp g) Q := by
  unfold b_Y_query_71 at e
  refine wp_p (j := J_Y_query) 2 (pc' := 75) (lv' := [(0, .ref v0), (1, .ref v1), (2, .int v2), (5, .int v5), (6, .int v6)]) (st' := [.int v5, .int v6]) rfl ?_
  refine x_ge e rfl (fun e => ?_) (fun e => ?_)
  · refine wp_p (j := J_Y_query) 4 (pc' := 83) (lv' := [(0, .ref v0), (1, .ref v1), (2, .int v2), (5, .int v5), (6, .int v6)]) (st' := [.int v6, .ref v1, .int 0, .ref v0]) rfl ?_
    refine x_aB e rfl (.inl rfl) rfl (fun z1 e => ?_)
    refine x_cv0 (As := [.int 0, .int z1]) (rest := []) e rfl rfl rfl rfl rfl rfl (fun h => d_Y_put h ⟨rfl, rfl⟩) (fun g2 e => ?_)
    refine wp_p (j := J_Y_query) 2 (pc' := 71) (lv' := [(6, .int (v6 + 1)), (0, .ref v0), (1, .ref v1), (2, .int v2), (5, .int v5)]) (st' := []) rfl ?_
    have e := Option.some.inj e; subst e; exact wp_lv (lv' := [(0, .ref v0), (1, .ref v1), (2, .int v2), (5, .int v5), (6, .int (v6 + 1))]) rfl ⟨rfl, rfl, rfl, rfl, rfl, trivial⟩ c
  · have e := Option.some.inj e; subst e; exact wp_lv (lv' := [(0, .ref v0), (1, .ref v1), (2, .int v2), (5, .int v5)]) rfl ⟨rfl, rfl, rfl, rfl, trivial⟩ c
noncomputable def L_Y_query_71 (v0 : Nat) (v1 : Nat) (v2 : Int32) (v5 : Int32) (v6 : Int32) (g : g_S) : Option (g_S) := it (fun s : Int32 × g_S => b_Y_query_71 v0 v1 v2 v5 s.1 s.2) (v6, g)
theorem l_Y_query_71 {L : Nat} {xs : Nat → Int32} {Q : Option Value → ab_H → Prop} {v0 : Nat} {v1 : Nat} {v2 : Int32} {v5 : Int32} {v6 : Int32} {g : g_S} {r : g_S} (e : L_Y_query_71 v0 v1 v2 v5 v6 g = some r) (c : cL_Y_query_71 L xs Q v0 v1 v2 v5 (.inr r)) : wp (ab_ext L xs) J_Y_query 71 [(0, .ref v0), (1, .ref v1), (2, .int v2), (5, .int v5), (6, .int v6)] [] (hp g) Q :=
  it_wp (P := fun s : Int32 × g_S => wp (ab_ext L xs) J_Y_query 71 [(0, .ref v0), (1, .ref v1), (2, .int v2), (5, .int v5), (6, .int s.1)] [] (hp s.2) Q) (E := fun r => cL_Y_query_71 L xs Q v0 v1 v2 v5 (.inr r)) (fun s out e c => y_Y_query_71 e (by cases out <;> exact c)) e c
theorem L_Y_query_71_eq (v0 : Nat) (v1 : Nat) (v2 : Int32) (v5 : Int32) (v6 : Int32) (g : g_S) : L_Y_query_71 v0 v1 v2 v5 v6 g = itc (b_Y_query_71 v0 v1 v2 v5 v6 g) (fun s => L_Y_query_71 v0 v1 v2 v5 s.1 s.2) := it_eq2 (fun s : Int32 × g_S => b_Y_query_71 v0 v1 v2 v5 s.1 s.2) (v6, g)
def cL_Y_query_114 (L : Nat) (xs : Nat → Int32) (Q : Option Value → ab_H → Prop) (v0 : Nat) (v1 : Nat) (v2 : Int32) (v3 : Int32) (out : (Int32 × g_S) ⊕ (g_S)) : Prop := match out with
  | .inl s => wp (ab_ext L xs) J_Y_query 114 [(0, .ref v0), (1, .ref v1), (2, .int v2), (3, .int v3), (5, .int s.1)] [] (hp s.2) Q
  | .inr s => wp (ab_ext L xs) J_Y_query 149 [(0, .ref v0), (1, .ref v1), (2, .int v2)] [] (hp s) Q
noncomputable def b_Y_query_114 (v0 : Nat) (v1 : Nat) (v2 : Int32) (v3 : Int32) (v5 : Int32) (g : g_S) : Option ((Int32 × g_S) ⊕ (g_S)) :=
  (rQ g 112 v0 7).bind fun z1 =>
  (aI g 0 z1 v3).bind fun z2 =>
  if v5 < z2 then
    (rQ g 112 v0 6).bind fun z3 =>
    (aI g 1 z3 ((v3 * 150) + v5)).bind fun z4 =>
    (vc g 112 v0 (M_Y_put v0 0 z4 g)).bind fun g5 =>
    some (.inl (v5 + 1, g5))
  else
    some (.inr g)
set_option maxRecDepth 20000 in
theorem y_Y_query_114 {L : Nat} {xs : Nat → Int32} {Q : Option Value → ab_H → Prop} {v0 : Nat} {v1 : Nat} {v2 : Int32} {v3 : Int32} {v5 : Int32} {g : g_S} {out : (Int32 × g_S) ⊕ (g_S)} (e : b_Y_query_114 v0 v1 v2 v3 v5 g = some out) (c : cL_Y_query_114 L xs Q v0 v1 v2 v3 out) : wp (ab_ext L xs) J_Y_query 114 [(0, .ref v0), (1, .ref v1), (2, .int v2), (3, .int v3), (5, .int v5)] [] (hp g) Q := by
  unfold b_Y_query_114 at e
  refine wp_p (j := J_Y_query) 2 (pc' := 117) (lv' := [(0, .ref v0), (1, .ref v1), (2, .int v2), (3, .int v3), (5, .int v5)]) (st' := [.ref v0, .int v5]) rfl ?_
  refine x_gQ e rfl rfl fd_12_7 rfl (fun z1 e => ?_)
  refine wp_p (j := J_Y_query) 1 (pc' := 121) (lv' := [(0, .ref v0), (1, .ref v1), (2, .int v2), (3, .int v3), (5, .int v5)]) (st' := [.int v3, .ref z1, .int v5]) rfl ?_
  refine x_aI e rfl rfl (fun z2 e => ?_)
  refine x_ge e rfl (fun e => ?_) (fun e => ?_)
  · refine wp_p (j := J_Y_query) 3 (pc' := 128) (lv' := [(0, .ref v0), (1, .ref v1), (2, .int v2), (3, .int v3), (5, .int v5)]) (st' := [.ref v0, .int 0, .ref v0]) rfl ?_
    refine x_gQ e rfl rfl fd_12_6 rfl (fun z3 e => ?_)
    refine wp_p (j := J_Y_query) 5 (pc' := 139) (lv' := [(0, .ref v0), (1, .ref v1), (2, .int v2), (3, .int v3), (5, .int v5)]) (st' := [.int ((v3 * 150) + v5), .ref z3, .int 0, .ref v0]) rfl ?_
    refine x_aB e rfl (.inl rfl) rfl (fun z4 e => ?_)
    refine x_cv0 (As := [.int 0, .int z4]) (rest := []) e rfl rfl rfl rfl rfl rfl (fun h => d_Y_put h ⟨rfl, rfl⟩) (fun g5 e => ?_)
    refine wp_p (j := J_Y_query) 2 (pc' := 114) (lv' := [(5, .int (v5 + 1)), (0, .ref v0), (1, .ref v1), (2, .int v2), (3, .int v3)]) (st' := []) rfl ?_
    have e := Option.some.inj e; subst e; exact wp_lv (lv' := [(0, .ref v0), (1, .ref v1), (2, .int v2), (3, .int v3), (5, .int (v5 + 1))]) rfl ⟨rfl, rfl, rfl, rfl, rfl, trivial⟩ c
  · have e := Option.some.inj e; subst e; exact wp_lv (lv' := [(0, .ref v0), (1, .ref v1), (2, .int v2)]) rfl ⟨rfl, rfl, rfl, trivial⟩ c
noncomputable def L_Y_query_114 (v0 : Nat) (v1 : Nat) (v2 : Int32) (v3 : Int32) (v5 : Int32) (g : g_S) : Option (g_S) := it (fun s : Int32 × g_S => b_Y_query_114 v0 v1 v2 v3 s.1 s.2) (v5, g)
theorem l_Y_query_114 {L : Nat} {xs : Nat → Int32} {Q : Option Value → ab_H → Prop} {v0 : Nat} {v1 : Nat} {v2 : Int32} {v3 : Int32} {v5 : Int32} {g : g_S} {r : g_S} (e : L_Y_query_114 v0 v1 v2 v3 v5 g = some r) (c : cL_Y_query_114 L xs Q v0 v1 v2 v3 (.inr r)) : wp (ab_ext L xs) J_Y_query 114 [(0, .ref v0), (1, .ref v1), (2, .int v2), (3, .int v3), (5, .int v5)] [] (hp g) Q :=
  it_wp (P := fun s : Int32 × g_S => wp (ab_ext L xs) J_Y_query 114 [(0, .ref v0), (1, .ref v1), (2, .int v2), (3, .int v3), (5, .int s.1)] [] (hp s.2) Q) (E := fun r => cL_Y_query_114 L xs Q v0 v1 v2 v3 (.inr r)) (fun s out e c => y_Y_query_114 e (by cases out <;> exact c)) e c
theorem L_Y_query_114_eq (v0 : Nat) (v1 : Nat) (v2 : Int32) (v3 : Int32) (v5 : Int32) (g : g_S) : L_Y_query_114 v0 v1 v2 v3 v5 g = itc (b_Y_query_114 v0 v1 v2 v3 v5 g) (fun s => L_Y_query_114 v0 v1 v2 v3 s.1 s.2) := it_eq2 (fun s : Int32 × g_S => b_Y_query_114 v0 v1 v2 v3 s.1 s.2) (v5, g)
def cL_Y_query_212 (L : Nat) (xs : Nat → Int32) (Q : Option Value → ab_H → Prop) (v0 : Nat) (v1 : Nat) (v2 : Int32) (v5 : Int32) (out : (Int32 × g_S) ⊕ (g_S)) : Prop := match out with
  | .inl s => wp (ab_ext L xs) J_Y_query 212 [(0, .ref v0), (1, .ref v1), (2, .int v2), (5, .int v5), (6, .int s.1)] [] (hp s.2) Q
  | .inr s => wp (ab_ext L xs) J_Y_query 251 [(0, .ref v0), (2, .int v2), (5, .int v5)] [] (hp s) Q
noncomputable def b_Y_query_212 (v0 : Nat) (v1 : Nat) (v2 : Int32) (v5 : Int32) (v6 : Int32) (g : g_S) : Option ((Int32 × g_S) ⊕ (g_S)) :=
  (rQ g 112 v0 8).bind fun z1 =>
  (aI g 0 z1 0).bind fun z2 =>
  if v6 < z2 then
    (rQ g 112 v0 6).bind fun z3 =>
    (rI g 112 v0 15).bind fun z4 =>
    (aI g 1 v1 ((z4 + 1) + v6)).bind fun z5 =>
    (sB g z3 (135 + v6) z5).bind fun g6 =>
    some (.inl (v6 + 1, g6))
  else
    some (.inr g)
set_option maxRecDepth 20000 in
theorem y_Y_query_212 {L : Nat} {xs : Nat → Int32} {Q : Option Value → ab_H → Prop} {v0 : Nat} {v1 : Nat} {v2 : Int32} {v5 : Int32} {v6 : Int32} {g : g_S} {out : (Int32 × g_S) ⊕ (g_S)} (e : b_Y_query_212 v0 v1 v2 v5 v6 g = some out) (c : cL_Y_query_212 L xs Q v0 v1 v2 v5 out) : wp (ab_ext L xs) J_Y_query 212 [(0, .ref v0), (1, .ref v1), (2, .int v2), (5, .int v5), (6, .int v6)] [] (hp g) Q := by
  unfold b_Y_query_212 at e
  refine wp_p (j := J_Y_query) 2 (pc' := 215) (lv' := [(0, .ref v0), (1, .ref v1), (2, .int v2), (5, .int v5), (6, .int v6)]) (st' := [.ref v0, .int v6]) rfl ?_
  refine x_gQ e rfl rfl fd_12_8 rfl (fun z1 e => ?_)
  refine wp_p (j := J_Y_query) 1 (pc' := 219) (lv' := [(0, .ref v0), (1, .ref v1), (2, .int v2), (5, .int v5), (6, .int v6)]) (st' := [.int 0, .ref z1, .int v6]) rfl ?_
  refine x_aI e rfl rfl (fun z2 e => ?_)
  refine x_ge e rfl (fun e => ?_) (fun e => ?_)
  · refine wp_p (j := J_Y_query) 1 (pc' := 224) (lv' := [(0, .ref v0), (1, .ref v1), (2, .int v2), (5, .int v5), (6, .int v6)]) (st' := [.ref v0]) rfl ?_
    refine x_gQ e rfl rfl fd_12_6 rfl (fun z3 e => ?_)
    refine wp_p (j := J_Y_query) 5 (pc' := 235) (lv' := [(0, .ref v0), (1, .ref v1), (2, .int v2), (5, .int v5), (6, .int v6)]) (st' := [.ref v0, .ref v1, .int (135 + v6), .ref z3]) rfl ?_
    refine x_gI e rfl rfl fd_12_15 rfl (fun z4 e => ?_)
    refine wp_p (j := J_Y_query) 4 (pc' := 243) (lv' := [(0, .ref v0), (1, .ref v1), (2, .int v2), (5, .int v5), (6, .int v6)]) (st' := [.int ((z4 + 1) + v6), .ref v1, .int (135 + v6), .ref z3]) rfl ?_
    refine x_aB e rfl (.inl rfl) rfl (fun z5 e => ?_)
    refine x_sB e rfl rfl (fun g6 e => ?_)
    refine wp_p (j := J_Y_query) 2 (pc' := 212) (lv' := [(6, .int (v6 + 1)), (0, .ref v0), (1, .ref v1), (2, .int v2), (5, .int v5)]) (st' := []) rfl ?_
    have e := Option.some.inj e; subst e; exact wp_lv (lv' := [(0, .ref v0), (1, .ref v1), (2, .int v2), (5, .int v5), (6, .int (v6 + 1))]) rfl ⟨rfl, rfl, rfl, rfl, rfl, trivial⟩ c
  · have e := Option.some.inj e; subst e; exact wp_lv (lv' := [(0, .ref v0), (2, .int v2), (5, .int v5)]) rfl ⟨rfl, rfl, rfl, trivial⟩ c
noncomputable def L_Y_query_212 (v0 : Nat) (v1 : Nat) (v2 : Int32) (v5 : Int32) (v6 : Int32) (g : g_S) : Option (g_S) := it (fun s : Int32 × g_S => b_Y_query_212 v0 v1 v2 v5 s.1 s.2) (v6, g)
theorem l_Y_query_212 {L : Nat} {xs : Nat → Int32} {Q : Option Value → ab_H → Prop} {v0 : Nat} {v1 : Nat} {v2 : Int32} {v5 : Int32} {v6 : Int32} {g : g_S} {r : g_S} (e : L_Y_query_212 v0 v1 v2 v5 v6 g = some r) (c : cL_Y_query_212 L xs Q v0 v1 v2 v5 (.inr r)) : wp (ab_ext L xs) J_Y_query 212 [(0, .ref v0), (1, .ref v1), (2, .int v2), (5, .int v5), (6, .int v6)] [] (hp g) Q :=
  it_wp (P := fun s : Int32 × g_S => wp (ab_ext L xs) J_Y_query 212 [(0, .ref v0), (1, .ref v1), (2, .int v2), (5, .int v5), (6, .int s.1)] [] (hp s.2) Q) (E := fun r => cL_Y_query_212 L xs Q v0 v1 v2 v5 (.inr r)) (fun s out e c => y_Y_query_212 e (by cases out <;> exact c)) e c
theorem L_Y_query_212_eq (v0 : Nat) (v1 : Nat) (v2 : Int32) (v5 : Int32) (v6 : Int32) (g : g_S) : L_Y_query_212 v0 v1 v2 v5 v6 g = itc (b_Y_query_212 v0 v1 v2 v5 v6 g) (fun s => L_Y_query_212 v0 v1 v2 v5 s.1 s.2) := it_eq2 (fun s : Int32 × g_S => b_Y_query_212 v0 v1 v2 v5 s.1 s.2) (v6, g)
noncomputable def k_Y_query_257 (v0 : Nat) (v2 : Int32) (g : g_S) : Option (Int32 × g_S) :=
  (rI g 112 v0 15).bind fun z1 =>
  if z1 = v2 then
    some (1, g)
  else
    some (0, g)
set_option maxRecDepth 20000 in
theorem x_Y_query_257 {L : Nat} {xs : Nat → Int32} {Q : Option Value → ab_H → Prop} {v0 : Nat} {v2 : Int32} {g : g_S} {out : Int32 × g_S} (e : k_Y_query_257 v0 v2 g = some out) (c : Q (some (.int out.1)) (hp out.2)) : wp (ab_ext L xs) J_Y_query 257 [(0, .ref v0), (2, .int v2)] [] (hp g) Q := by
  unfold k_Y_query_257 at e
  refine wp_p (j := J_Y_query) 1 (pc' := 258) (lv' := [(0, .ref v0), (2, .int v2)]) (st' := [.ref v0]) rfl ?_
  refine x_gI e rfl rfl fd_12_15 rfl (fun z1 e => ?_)
  refine wp_p (j := J_Y_query) 1 (pc' := 262) (lv' := [(0, .ref v0), (2, .int v2)]) (st' := [.int v2, .int z1]) rfl ?_
  refine x_ne e rfl (fun e => ?_) (fun e => ?_)
  · refine wp_p (j := J_Y_query) 2 (pc' := 270) (lv' := [(0, .ref v0), (2, .int v2)]) (st' := [.int 1]) rfl ?_
    have e := Option.some.inj e; subst e; exact wp_iret (ty := .boolean) rfl rfl (by decide) c
  · refine wp_p (j := J_Y_query) 1 (pc' := 270) (lv' := [(0, .ref v0), (2, .int v2)]) (st' := [.int 0]) rfl ?_
    have e := Option.some.inj e; subst e; exact wp_iret (ty := .boolean) rfl rfl (by decide) c
noncomputable def k_Y_query_149 (v0 : Nat) (v1 : Nat) (v2 : Int32) (g : g_S) : Option (Int32 × g_S) :=
  (rI g 112 v0 15).bind fun z1 =>
  if z1 < v2 then
    (rI g 112 v0 15).bind fun z2 =>
    (aI g 1 v1 z2).bind fun z3 =>
    if z3 = 35 then
      (rI g 112 v0 15).bind fun z4 =>
      (M_Y_nameEnd v1 (z4 + 1) v2 g).bind fun z5 =>
      (rI g 112 v0 15).bind fun z6 =>
      if z5 = (z6 + 1) then
        some (0, g)
      else
        (rQ g 112 v0 8).bind fun z7 =>
        (rI g 112 v0 15).bind fun z8 =>
        (sI g z7 0 ((z5 - z8) - 1)).bind fun g9 =>
        (L_Y_query_212 v0 v1 v2 z5 0 g9).bind <| fun g12 =>
        (wI g12 112 v0 15 z5).bind fun g13 =>
        k_Y_query_257 v0 v2 g13
    else
      k_Y_query_257 v0 v2 g
  else
    k_Y_query_257 v0 v2 g
set_option maxRecDepth 20000 in
theorem x_Y_query_149 {L : Nat} {xs : Nat → Int32} {Q : Option Value → ab_H → Prop} {v0 : Nat} {v1 : Nat} {v2 : Int32} {g : g_S} {out : Int32 × g_S} (e : k_Y_query_149 v0 v1 v2 g = some out) (c : Q (some (.int out.1)) (hp out.2)) : wp (ab_ext L xs) J_Y_query 149 [(0, .ref v0), (1, .ref v1), (2, .int v2)] [] (hp g) Q := by
  unfold k_Y_query_149 at e
  refine wp_p (j := J_Y_query) 1 (pc' := 150) (lv' := [(0, .ref v0), (1, .ref v1), (2, .int v2)]) (st' := [.ref v0]) rfl ?_
  refine x_gI e rfl rfl fd_12_15 rfl (fun z1 e => ?_)
  refine wp_p (j := J_Y_query) 1 (pc' := 154) (lv' := [(0, .ref v0), (1, .ref v1), (2, .int v2)]) (st' := [.int v2, .int z1]) rfl ?_
  refine x_ge e rfl (fun e => ?_) (fun e => ?_)
  · refine wp_p (j := J_Y_query) 2 (pc' := 159) (lv' := [(0, .ref v0), (1, .ref v1), (2, .int v2)]) (st' := [.ref v0, .ref v1]) rfl ?_
    refine x_gI e rfl rfl fd_12_15 rfl (fun z2 e => ?_)
    refine x_aB e rfl (.inl rfl) rfl (fun z3 e => ?_)
    refine wp_p (j := J_Y_query) 1 (pc' := 165) (lv' := [(0, .ref v0), (1, .ref v1), (2, .int v2)]) (st' := [.int 35, .int z3]) rfl ?_
    refine x_ne e rfl (fun e => ?_) (fun e => ?_)
    · refine wp_p (j := J_Y_query) 2 (pc' := 170) (lv' := [(0, .ref v0), (1, .ref v1), (2, .int v2)]) (st' := [.ref v0, .ref v1]) rfl ?_
      refine x_gI e rfl rfl fd_12_15 rfl (fun z4 e => ?_)
      refine wp_p (j := J_Y_query) 3 (pc' := 176) (lv' := [(0, .ref v0), (1, .ref v1), (2, .int v2)]) (st' := [.int v2, .int (z4 + 1), .ref v1]) rfl ?_
      refine x_cs1 (As := [.ref v1, .int (z4 + 1), .int v2]) (rest := []) Value.int e rfl rfl rfl rfl rfl (fun h => d_Y_nameEnd h ⟨rfl, rfl⟩) (fun z5 e => ?_)
      refine wp_p (j := J_Y_query) 3 (pc' := 184) (lv' := [(5, .int z5), (0, .ref v0), (1, .ref v1), (2, .int v2)]) (st' := [.ref v0, .int z5]) rfl ?_
      refine x_gI e rfl rfl fd_12_15 rfl (fun z6 e => ?_)
      refine wp_p (j := J_Y_query) 2 (pc' := 189) (lv' := [(5, .int z5), (0, .ref v0), (1, .ref v1), (2, .int v2)]) (st' := [.int (z6 + 1), .int z5]) rfl ?_
      refine x_ne e rfl (fun e => ?_) (fun e => ?_)
      · refine wp_p (j := J_Y_query) 1 (pc' := 193) (lv' := [(5, .int z5), (0, .ref v0), (1, .ref v1), (2, .int v2)]) (st' := [.int 0]) rfl ?_
        have e := Option.some.inj e; subst e; exact wp_iret (ty := .boolean) rfl rfl (by decide) c
      · refine wp_p (j := J_Y_query) 1 (pc' := 195) (lv' := [(5, .int z5), (0, .ref v0), (1, .ref v1), (2, .int v2)]) (st' := [.ref v0]) rfl ?_
        refine x_gQ e rfl rfl fd_12_8 rfl (fun z7 e => ?_)
        refine wp_p (j := J_Y_query) 3 (pc' := 202) (lv' := [(5, .int z5), (0, .ref v0), (1, .ref v1), (2, .int v2)]) (st' := [.ref v0, .int z5, .int 0, .ref z7]) rfl ?_
        refine x_gI e rfl rfl fd_12_15 rfl (fun z8 e => ?_)
        refine wp_p (j := J_Y_query) 3 (pc' := 208) (lv' := [(5, .int z5), (0, .ref v0), (1, .ref v1), (2, .int v2)]) (st' := [.int ((z5 - z8) - 1), .int 0, .ref z7]) rfl ?_
        refine x_sI e rfl rfl (fun g9 e => ?_)
        refine wp_p (j := J_Y_query) 2 (pc' := 212) (lv' := [(6, .int 0), (5, .int z5), (0, .ref v0), (1, .ref v1), (2, .int v2)]) (st' := []) rfl ?_
        obtain ⟨g12, h11, e⟩ := bd e
        refine wp_lv (lv' := [(0, .ref v0), (1, .ref v1), (2, .int v2), (5, .int z5), (6, .int 0)]) rfl ⟨rfl, rfl, rfl, rfl, rfl, trivial⟩ ?_
        refine l_Y_query_212 h11 ?_
        show wp (ab_ext L xs) J_Y_query 251 [(0, .ref v0), (2, .int v2), (5, .int z5)] [] (hp g12) Q
        refine wp_p (j := J_Y_query) 2 (pc' := 254) (lv' := [(0, .ref v0), (2, .int v2), (5, .int z5)]) (st' := [.int z5, .ref v0]) rfl ?_
        refine x_pI e rfl rfl fw_12_15 rfl (fun g13 e => ?_)
        exact wp_lv (lv' := [(0, .ref v0), (2, .int v2)]) rfl ⟨rfl, rfl, trivial⟩ (x_Y_query_257 e c)
    · exact wp_lv (lv' := [(0, .ref v0), (2, .int v2)]) rfl ⟨rfl, rfl, trivial⟩ (x_Y_query_257 e c)
  · exact wp_lv (lv' := [(0, .ref v0), (2, .int v2)]) rfl ⟨rfl, rfl, trivial⟩ (x_Y_query_257 e c)
noncomputable def k_Y_query_102 (v0 : Nat) (v1 : Nat) (v2 : Int32) (v3 : Int32) (v4 : Int32) (g : g_S) : Option (Int32 × g_S) :=
  if v4 = 0 then
    (vc g 112 v0 (M_Y_queryAt v0 v3 g)).bind fun z1 =>
    (L_Y_query_114 v0 v1 v2 v3 z1 g).bind <| fun g4 =>
    k_Y_query_149 v0 v1 v2 g4
  else
    k_Y_query_149 v0 v1 v2 g
set_option maxRecDepth 20000 in
theorem x_Y_query_102 {L : Nat} {xs : Nat → Int32} {Q : Option Value → ab_H → Prop} {v0 : Nat} {v1 : Nat} {v2 : Int32} {v3 : Int32} {v4 : Int32} {g : g_S} {out : Int32 × g_S} (e : k_Y_query_102 v0 v1 v2 v3 v4 g = some out) (c : Q (some (.int out.1)) (hp out.2)) : wp (ab_ext L xs) J_Y_query 102 [(0, .ref v0), (1, .ref v1), (2, .int v2), (3, .int v3), (4, .int v4)] [] (hp g) Q := by
  unfold k_Y_query_102 at e
  refine wp_p (j := J_Y_query) 1 (pc' := 104) (lv' := [(0, .ref v0), (1, .ref v1), (2, .int v2), (3, .int v3), (4, .int v4)]) (st' := [.int v4]) rfl ?_
  refine z_ne e rfl (fun e => ?_) (fun e => ?_)
  · refine wp_p (j := J_Y_query) 2 (pc' := 109) (lv' := [(0, .ref v0), (1, .ref v1), (2, .int v2), (3, .int v3), (4, .int v4)]) (st' := [.int v3, .ref v0]) rfl ?_
    refine x_cv1 (As := [.int v3]) (rest := []) Value.int e rfl rfl rfl rfl rfl rfl (fun h => d_Y_queryAt h ⟨rfl, rfl⟩) (fun z1 e => ?_)
    refine wp_p (j := J_Y_query) 1 (pc' := 114) (lv' := [(5, .int z1), (0, .ref v0), (1, .ref v1), (2, .int v2), (3, .int v3), (4, .int v4)]) (st' := []) rfl ?_
    obtain ⟨g4, h3, e⟩ := bd e
    refine wp_lv (lv' := [(0, .ref v0), (1, .ref v1), (2, .int v2), (3, .int v3), (5, .int z1)]) rfl ⟨rfl, rfl, rfl, rfl, rfl, trivial⟩ ?_
    refine l_Y_query_114 h3 ?_
    show wp (ab_ext L xs) J_Y_query 149 [(0, .ref v0), (1, .ref v1), (2, .int v2)] [] (hp g4) Q
    exact wp_lv (lv' := [(0, .ref v0), (1, .ref v1), (2, .int v2)]) rfl ⟨rfl, rfl, rfl, trivial⟩ (x_Y_query_149 e c)
  · exact wp_lv (lv' := [(0, .ref v0), (1, .ref v1), (2, .int v2)]) rfl ⟨rfl, rfl, rfl, trivial⟩ (x_Y_query_149 e c)
noncomputable def k_Y_query_49 (v0 : Nat) (v1 : Nat) (v2 : Int32) (v5 : Int32) (g : g_S) : Option (Int32 × g_S) :=
  (rI g 112 v0 15).bind fun z1 =>
  if 40 < ((v5 - z1) - 1) then
    some (0, g)
  else
    (rI g 112 v0 15).bind fun z2 =>
    (L_Y_query_71 v0 v1 v2 v5 z2 g).bind <| fun g5 =>
    (wI g5 112 v0 15 v5).bind fun g6 =>
    k_Y_query_149 v0 v1 v2 g6
set_option maxRecDepth 20000 in
theorem x_Y_query_49 {L : Nat} {xs : Nat → Int32} {Q : Option Value → ab_H → Prop} {v0 : Nat} {v1 : Nat} {v2 : Int32} {v5 : Int32} {g : g_S} {out : Int32 × g_S} (e : k_Y_query_49 v0 v1 v2 v5 g = some out) (c : Q (some (.int out.1)) (hp out.2)) : wp (ab_ext L xs) J_Y_query 49 [(0, .ref v0), (1, .ref v1), (2, .int v2), (5, .int v5)] [] (hp g) Q := by
  unfold k_Y_query_49 at e
  refine wp_p (j := J_Y_query) 2 (pc' := 52) (lv' := [(0, .ref v0), (1, .ref v1), (2, .int v2), (5, .int v5)]) (st' := [.ref v0, .int v5]) rfl ?_
  refine x_gI e rfl rfl fd_12_15 rfl (fun z1 e => ?_)
  refine wp_p (j := J_Y_query) 4 (pc' := 60) (lv' := [(0, .ref v0), (1, .ref v1), (2, .int v2), (5, .int v5)]) (st' := [.int 40, .int ((v5 - z1) - 1)]) rfl ?_
  refine x_le e rfl (fun e => ?_) (fun e => ?_)
  · refine wp_p (j := J_Y_query) 1 (pc' := 64) (lv' := [(0, .ref v0), (1, .ref v1), (2, .int v2), (5, .int v5)]) (st' := [.int 0]) rfl ?_
    have e := Option.some.inj e; subst e; exact wp_iret (ty := .boolean) rfl rfl (by decide) c
  · refine wp_p (j := J_Y_query) 1 (pc' := 66) (lv' := [(0, .ref v0), (1, .ref v1), (2, .int v2), (5, .int v5)]) (st' := [.ref v0]) rfl ?_
    refine x_gI e rfl rfl fd_12_15 rfl (fun z2 e => ?_)
    refine wp_p (j := J_Y_query) 1 (pc' := 71) (lv' := [(6, .int z2), (0, .ref v0), (1, .ref v1), (2, .int v2), (5, .int v5)]) (st' := []) rfl ?_
    obtain ⟨g5, h4, e⟩ := bd e
    refine wp_lv (lv' := [(0, .ref v0), (1, .ref v1), (2, .int v2), (5, .int v5), (6, .int z2)]) rfl ⟨rfl, rfl, rfl, rfl, rfl, trivial⟩ ?_
    refine l_Y_query_71 h4 ?_
    show wp (ab_ext L xs) J_Y_query 93 [(0, .ref v0), (1, .ref v1), (2, .int v2), (5, .int v5)] [] (hp g5) Q
    refine wp_p (j := J_Y_query) 2 (pc' := 96) (lv' := [(0, .ref v0), (1, .ref v1), (2, .int v2), (5, .int v5)]) (st' := [.int v5, .ref v0]) rfl ?_
    refine x_pI e rfl rfl fw_12_15 rfl (fun g6 e => ?_)
    refine wp_p (j := J_Y_query) 1 (pc' := 149) (lv' := [(0, .ref v0), (1, .ref v1), (2, .int v2), (5, .int v5)]) (st' := []) rfl ?_
    exact wp_lv (lv' := [(0, .ref v0), (1, .ref v1), (2, .int v2)]) rfl ⟨rfl, rfl, rfl, trivial⟩ (x_Y_query_149 e c)
noncomputable def M_Y_query (v0 : Nat) (v1 : Nat) (v2 : Int32) (v3 : Int32) (v4 : Int32) (g : g_S) : Option (Int32 × g_S) :=
  (rI g 112 v0 15).bind fun z1 =>
  if z1 < v2 then
    (rI g 112 v0 15).bind fun z2 =>
    (aI g 1 v1 z2).bind fun z3 =>
    if z3 = 63 then
      (rI g 112 v0 15).bind fun z4 =>
      (L_Y_query_27 v0 v1 v2 (z4 + 1) g).bind <| fun z7 =>
      k_Y_query_49 v0 v1 v2 z7 g
    else
      k_Y_query_102 v0 v1 v2 v3 v4 g
  else
    k_Y_query_102 v0 v1 v2 v3 v4 g
set_option maxRecDepth 20000 in
theorem d_Y_query {L : Nat} {xs : Nat → Int32} {Q : Option Value → ab_H → Prop} {v0 : Nat} {v1 : Nat} {v2 : Int32} {v3 : Int32} {v4 : Int32} {g : g_S} {out : Int32 × g_S} (e : M_Y_query v0 v1 v2 v3 v4 g = some out) (c : Q (some (.int out.1)) (hp out.2)) : mw (ab_ext L xs) J_Y_query [.ref v0, .ref v1, .int v2, .int v3, .int v4] (hp g) Q := by
  unfold M_Y_query at e
  refine wp_p (j := J_Y_query) 1 (pc' := 1) (lv' := [(0, .ref v0), (1, .ref v1), (2, .int v2), (3, .int v3), (4, .int v4)]) (st' := [.ref v0]) rfl ?_
  refine x_gI e rfl rfl fd_12_15 rfl (fun z1 e => ?_)
  refine wp_p (j := J_Y_query) 1 (pc' := 5) (lv' := [(0, .ref v0), (1, .ref v1), (2, .int v2), (3, .int v3), (4, .int v4)]) (st' := [.int v2, .int z1]) rfl ?_
  refine x_ge e rfl (fun e => ?_) (fun e => ?_)
  · refine wp_p (j := J_Y_query) 2 (pc' := 10) (lv' := [(0, .ref v0), (1, .ref v1), (2, .int v2), (3, .int v3), (4, .int v4)]) (st' := [.ref v0, .ref v1]) rfl ?_
    refine x_gI e rfl rfl fd_12_15 rfl (fun z2 e => ?_)
    refine x_aB e rfl (.inl rfl) rfl (fun z3 e => ?_)
    refine wp_p (j := J_Y_query) 1 (pc' := 16) (lv' := [(0, .ref v0), (1, .ref v1), (2, .int v2), (3, .int v3), (4, .int v4)]) (st' := [.int 63, .int z3]) rfl ?_
    refine x_ne e rfl (fun e => ?_) (fun e => ?_)
    · refine wp_p (j := J_Y_query) 1 (pc' := 20) (lv' := [(0, .ref v0), (1, .ref v1), (2, .int v2), (3, .int v3), (4, .int v4)]) (st' := [.ref v0]) rfl ?_
      refine x_gI e rfl rfl fd_12_15 rfl (fun z4 e => ?_)
      refine wp_p (j := J_Y_query) 3 (pc' := 27) (lv' := [(5, .int (z4 + 1)), (0, .ref v0), (1, .ref v1), (2, .int v2), (3, .int v3), (4, .int v4)]) (st' := []) rfl ?_
      obtain ⟨z7, h6, e⟩ := bd e
      refine wp_lv (lv' := [(0, .ref v0), (1, .ref v1), (2, .int v2), (5, .int (z4 + 1))]) rfl ⟨rfl, rfl, rfl, rfl, trivial⟩ ?_
      refine l_Y_query_27 h6 ?_
      show wp (ab_ext L xs) J_Y_query 49 [(0, .ref v0), (1, .ref v1), (2, .int v2), (5, .int z7)] [] (hp g) Q
      exact wp_lv (lv' := [(0, .ref v0), (1, .ref v1), (2, .int v2), (5, .int z7)]) rfl ⟨rfl, rfl, rfl, rfl, trivial⟩ (x_Y_query_49 e c)
    · exact wp_lv (lv' := [(0, .ref v0), (1, .ref v1), (2, .int v2), (3, .int v3), (4, .int v4)]) rfl ⟨rfl, rfl, rfl, rfl, rfl, trivial⟩ (x_Y_query_102 e c)
  · exact wp_lv (lv' := [(0, .ref v0), (1, .ref v1), (2, .int v2), (3, .int v3), (4, .int v4)]) rfl ⟨rfl, rfl, rfl, rfl, rfl, trivial⟩ (x_Y_query_102 e c)
def cL_Y_refer_80 (L : Nat) (xs : Nat → Int32) (Q : Option Value → ab_H → Prop) (v0 : Nat) (v1 : Nat) (v2 : Int32) (v3 : Int32) (v4 : Int32) (v5 : Int32) (v6 : Int32) (out : (Int32 × g_S) ⊕ (g_S)) : Prop := match out with
  | .inl s => wp (ab_ext L xs) J_Y_refer 80 [(0, .ref v0), (1, .ref v1), (2, .int v2), (3, .int v3), (4, .int v4), (5, .int v5), (6, .int v6), (7, .int s.1)] [] (hp s.2) Q
  | .inr s => wp (ab_ext L xs) J_Y_refer 102 [(0, .ref v0), (1, .ref v1), (2, .int v2), (3, .int v3), (4, .int v4), (5, .int v5), (6, .int v6)] [] (hp s) Q
noncomputable def b_Y_refer_80 (v0 : Nat) (v1 : Nat) (v2 : Int32) (v3 : Int32) (v4 : Int32) (v5 : Int32) (v6 : Int32) (v7 : Int32) (g : g_S) : Option ((Int32 × g_S) ⊕ (g_S)) :=
  if v7 < v6 then
    (aI g 1 v1 v7).bind fun z1 =>
    (vc g 112 v0 (M_Y_put v0 0 z1 g)).bind fun g2 =>
    some (.inl (v7 + 1, g2))
  else
    some (.inr g)
set_option maxRecDepth 20000 in
theorem y_Y_refer_80 {L : Nat} {xs : Nat → Int32} {Q : Option Value → ab_H → Prop} {v0 : Nat} {v1 : Nat} {v2 : Int32} {v3 : Int32} {v4 : Int32} {v5 : Int32} {v6 : Int32} {v7 : Int32} {g : g_S} {out : (Int32 × g_S) ⊕ (g_S)} (e : b_Y_refer_80 v0 v1 v2 v3 v4 v5 v6 v7 g = some out) (c : cL_Y_refer_80 L xs Q v0 v1 v2 v3 v4 v5 v6 out) : wp (ab_ext L xs) J_Y_refer 80 [(0, .ref v0), (1, .ref v1), (2, .int v2), (3, .int v3), (4, .int v4), (5, .int v5), (6, .int v6), (7, .int v7)] [] (hp g) Q := by
  unfold b_Y_refer_80 at e
  refine wp_p (j := J_Y_refer) 2 (pc' := 84) (lv' := [(0, .ref v0), (1, .ref v1), (2, .int v2), (3, .int v3), (4, .int v4), (5, .int v5), (6, .int v6), (7, .int v7)]) (st' := [.int v6, .int v7]) rfl ?_
  refine x_ge e rfl (fun e => ?_) (fun e => ?_)
  · refine wp_p (j := J_Y_refer) 4 (pc' := 92) (lv' := [(0, .ref v0), (1, .ref v1), (2, .int v2), (3, .int v3), (4, .int v4), (5, .int v5), (6, .int v6), (7, .int v7)]) (st' := [.int v7, .ref v1, .int 0, .ref v0]) rfl ?_
    refine x_aB e rfl (.inl rfl) rfl (fun z1 e => ?_)
    refine x_cv0 (As := [.int 0, .int z1]) (rest := []) e rfl rfl rfl rfl rfl rfl (fun h => d_Y_put h ⟨rfl, rfl⟩) (fun g2 e => ?_)
    refine wp_p (j := J_Y_refer) 2 (pc' := 80) (lv' := [(7, .int (v7 + 1)), (0, .ref v0), (1, .ref v1), (2, .int v2), (3, .int v3), (4, .int v4), (5, .int v5), (6, .int v6)]) (st' := []) rfl ?_
    have e := Option.some.inj e; subst e; exact wp_lv (lv' := [(0, .ref v0), (1, .ref v1), (2, .int v2), (3, .int v3), (4, .int v4), (5, .int v5), (6, .int v6), (7, .int (v7 + 1))]) rfl ⟨rfl, rfl, rfl, rfl, rfl, rfl, rfl, rfl, trivial⟩ c
  · have e := Option.some.inj e; subst e; exact wp_lv (lv' := [(0, .ref v0), (1, .ref v1), (2, .int v2), (3, .int v3), (4, .int v4), (5, .int v5), (6, .int v6)]) rfl ⟨rfl, rfl, rfl, rfl, rfl, rfl, rfl, trivial⟩ c
noncomputable def L_Y_refer_80 (v0 : Nat) (v1 : Nat) (v2 : Int32) (v3 : Int32) (v4 : Int32) (v5 : Int32) (v6 : Int32) (v7 : Int32) (g : g_S) : Option (g_S) := it (fun s : Int32 × g_S => b_Y_refer_80 v0 v1 v2 v3 v4 v5 v6 s.1 s.2) (v7, g)
theorem l_Y_refer_80 {L : Nat} {xs : Nat → Int32} {Q : Option Value → ab_H → Prop} {v0 : Nat} {v1 : Nat} {v2 : Int32} {v3 : Int32} {v4 : Int32} {v5 : Int32} {v6 : Int32} {v7 : Int32} {g : g_S} {r : g_S} (e : L_Y_refer_80 v0 v1 v2 v3 v4 v5 v6 v7 g = some r) (c : cL_Y_refer_80 L xs Q v0 v1 v2 v3 v4 v5 v6 (.inr r)) : wp (ab_ext L xs) J_Y_refer 80 [(0, .ref v0), (1, .ref v1), (2, .int v2), (3, .int v3), (4, .int v4), (5, .int v5), (6, .int v6), (7, .int v7)] [] (hp g) Q :=
  it_wp (P := fun s : Int32 × g_S => wp (ab_ext L xs) J_Y_refer 80 [(0, .ref v0), (1, .ref v1), (2, .int v2), (3, .int v3), (4, .int v4), (5, .int v5), (6, .int v6), (7, .int s.1)] [] (hp s.2) Q) (E := fun r => cL_Y_refer_80 L xs Q v0 v1 v2 v3 v4 v5 v6 (.inr r)) (fun s out e c => y_Y_refer_80 e (by cases out <;> exact c)) e c
theorem L_Y_refer_80_eq (v0 : Nat) (v1 : Nat) (v2 : Int32) (v3 : Int32) (v4 : Int32) (v5 : Int32) (v6 : Int32) (v7 : Int32) (g : g_S) : L_Y_refer_80 v0 v1 v2 v3 v4 v5 v6 v7 g = itc (b_Y_refer_80 v0 v1 v2 v3 v4 v5 v6 v7 g) (fun s => L_Y_refer_80 v0 v1 v2 v3 v4 v5 v6 s.1 s.2) := it_eq2 (fun s : Int32 × g_S => b_Y_refer_80 v0 v1 v2 v3 v4 v5 v6 s.1 s.2) (v7, g)
def cL_Y_refer_149 (L : Nat) (xs : Nat → Int32) (Q : Option Value → ab_H → Prop) (v0 : Nat) (v1 : Nat) (v2 : Int32) (v3 : Int32) (v4 : Int32) (v5 : Int32) (v6 : Int32) (out : (Int32 × g_S) ⊕ (g_S)) : Prop := match out with
  | .inl s => wp (ab_ext L xs) J_Y_refer 149 [(0, .ref v0), (1, .ref v1), (2, .int v2), (3, .int v3), (4, .int v4), (5, .int v5), (6, .int v6), (7, .int s.1)] [] (hp s.2) Q
  | .inr s => wp (ab_ext L xs) J_Y_refer 181 [(0, .ref v0), (1, .ref v1), (2, .int v2), (3, .int v3), (4, .int v4), (5, .int v5)] [] (hp s) Q
noncomputable def b_Y_refer_149 (v0 : Nat) (v1 : Nat) (v2 : Int32) (v3 : Int32) (v4 : Int32) (v5 : Int32) (v6 : Int32) (v7 : Int32) (g : g_S) : Option ((Int32 × g_S) ⊕ (g_S)) :=
  if v7 < v6 then
    (rQ g 112 v0 6).bind fun z1 =>
    (aI g 1 z1 ((v4 * 150) + v7)).bind fun z2 =>
    (vc g 112 v0 (M_Y_put v0 0 z2 g)).bind fun g3 =>
    some (.inl (v7 + 1, g3))
  else
    some (.inr g)
set_option maxRecDepth 20000 in
theorem y_Y_refer_149 {L : Nat} {xs : Nat → Int32} {Q : Option Value → ab_H → Prop} {v0 : Nat} {v1 : Nat} {v2 : Int32} {v3 : Int32} {v4 : Int32} {v5 : Int32} {v6 : Int32} {v7 : Int32} {g : g_S} {out : (Int32 × g_S) ⊕ (g_S)} (e : b_Y_refer_149 v0 v1 v2 v3 v4 v5 v6 v7 g = some out) (c : cL_Y_refer_149 L xs Q v0 v1 v2 v3 v4 v5 v6 out) : wp (ab_ext L xs) J_Y_refer 149 [(0, .ref v0), (1, .ref v1), (2, .int v2), (3, .int v3), (4, .int v4), (5, .int v5), (6, .int v6), (7, .int v7)] [] (hp g) Q := by
  unfold b_Y_refer_149 at e
  refine wp_p (j := J_Y_refer) 2 (pc' := 153) (lv' := [(0, .ref v0), (1, .ref v1), (2, .int v2), (3, .int v3), (4, .int v4), (5, .int v5), (6, .int v6), (7, .int v7)]) (st' := [.int v6, .int v7]) rfl ?_
  refine x_ge e rfl (fun e => ?_) (fun e => ?_)
  · refine wp_p (j := J_Y_refer) 3 (pc' := 159) (lv' := [(0, .ref v0), (1, .ref v1), (2, .int v2), (3, .int v3), (4, .int v4), (5, .int v5), (6, .int v6), (7, .int v7)]) (st' := [.ref v0, .int 0, .ref v0]) rfl ?_
    refine x_gQ e rfl rfl fd_12_6 rfl (fun z1 e => ?_)
    refine wp_p (j := J_Y_refer) 5 (pc' := 171) (lv' := [(0, .ref v0), (1, .ref v1), (2, .int v2), (3, .int v3), (4, .int v4), (5, .int v5), (6, .int v6), (7, .int v7)]) (st' := [.int ((v4 * 150) + v7), .ref z1, .int 0, .ref v0]) rfl ?_
    refine x_aB e rfl (.inl rfl) rfl (fun z2 e => ?_)
    refine x_cv0 (As := [.int 0, .int z2]) (rest := []) e rfl rfl rfl rfl rfl rfl (fun h => d_Y_put h ⟨rfl, rfl⟩) (fun g3 e => ?_)
    refine wp_p (j := J_Y_refer) 2 (pc' := 149) (lv' := [(7, .int (v7 + 1)), (0, .ref v0), (1, .ref v1), (2, .int v2), (3, .int v3), (4, .int v4), (5, .int v5), (6, .int v6)]) (st' := []) rfl ?_
    have e := Option.some.inj e; subst e; exact wp_lv (lv' := [(0, .ref v0), (1, .ref v1), (2, .int v2), (3, .int v3), (4, .int v4), (5, .int v5), (6, .int v6), (7, .int (v7 + 1))]) rfl ⟨rfl, rfl, rfl, rfl, rfl, rfl, rfl, rfl, trivial⟩ c
  · have e := Option.some.inj e; subst e; exact wp_lv (lv' := [(0, .ref v0), (1, .ref v1), (2, .int v2), (3, .int v3), (4, .int v4), (5, .int v5)]) rfl ⟨rfl, rfl, rfl, rfl, rfl, rfl, trivial⟩ c
noncomputable def L_Y_refer_149 (v0 : Nat) (v1 : Nat) (v2 : Int32) (v3 : Int32) (v4 : Int32) (v5 : Int32) (v6 : Int32) (v7 : Int32) (g : g_S) : Option (g_S) := it (fun s : Int32 × g_S => b_Y_refer_149 v0 v1 v2 v3 v4 v5 v6 s.1 s.2) (v7, g)
theorem l_Y_refer_149 {L : Nat} {xs : Nat → Int32} {Q : Option Value → ab_H → Prop} {v0 : Nat} {v1 : Nat} {v2 : Int32} {v3 : Int32} {v4 : Int32} {v5 : Int32} {v6 : Int32} {v7 : Int32} {g : g_S} {r : g_S} (e : L_Y_refer_149 v0 v1 v2 v3 v4 v5 v6 v7 g = some r) (c : cL_Y_refer_149 L xs Q v0 v1 v2 v3 v4 v5 v6 (.inr r)) : wp (ab_ext L xs) J_Y_refer 149 [(0, .ref v0), (1, .ref v1), (2, .int v2), (3, .int v3), (4, .int v4), (5, .int v5), (6, .int v6), (7, .int v7)] [] (hp g) Q :=
  it_wp (P := fun s : Int32 × g_S => wp (ab_ext L xs) J_Y_refer 149 [(0, .ref v0), (1, .ref v1), (2, .int v2), (3, .int v3), (4, .int v4), (5, .int v5), (6, .int v6), (7, .int s.1)] [] (hp s.2) Q) (E := fun r => cL_Y_refer_149 L xs Q v0 v1 v2 v3 v4 v5 v6 (.inr r)) (fun s out e c => y_Y_refer_149 e (by cases out <;> exact c)) e c
theorem L_Y_refer_149_eq (v0 : Nat) (v1 : Nat) (v2 : Int32) (v3 : Int32) (v4 : Int32) (v5 : Int32) (v6 : Int32) (v7 : Int32) (g : g_S) : L_Y_refer_149 v0 v1 v2 v3 v4 v5 v6 v7 g = itc (b_Y_refer_149 v0 v1 v2 v3 v4 v5 v6 v7 g) (fun s => L_Y_refer_149 v0 v1 v2 v3 v4 v5 v6 s.1 s.2) := it_eq2 (fun s : Int32 × g_S => b_Y_refer_149 v0 v1 v2 v3 v4 v5 v6 s.1 s.2) (v7, g)
def cL_Y_refer_310 (L : Nat) (xs : Nat → Int32) (Q : Option Value → ab_H → Prop) (v0 : Nat) (v1 : Nat) (v3 : Int32) (v4 : Int32) (v5 : Int32) (v6 : Int32) (out : (Int32 × g_S) ⊕ (g_S)) : Prop := match out with
  | .inl s => wp (ab_ext L xs) J_Y_refer 310 [(0, .ref v0), (1, .ref v1), (3, .int v3), (4, .int v4), (5, .int v5), (6, .int v6), (7, .int s.1)] [] (hp s.2) Q
  | .inr s => wp (ab_ext L xs) J_Y_refer 348 [(0, .ref v0), (1, .ref v1), (3, .int v3), (4, .int v4), (5, .int v5), (6, .int v6)] [] (hp s) Q
noncomputable def b_Y_refer_310 (v0 : Nat) (v1 : Nat) (v3 : Int32) (v4 : Int32) (v5 : Int32) (v6 : Int32) (v7 : Int32) (g : g_S) : Option ((Int32 × g_S) ⊕ (g_S)) :=
  (rQ g 112 v0 11).bind fun z1 =>
  (aI g 0 z1 v6).bind fun z2 =>
  if v7 < z2 then
    (rQ g 112 v0 9).bind fun z3 =>
    (rQ g 112 v0 10).bind fun z4 =>
    (aI g 0 z4 v6).bind fun z5 =>
    (aI g 1 z3 (z5 + v7)).bind fun z6 =>
    (vc g 112 v0 (M_Y_put v0 0 z6 g)).bind fun g7 =>
    some (.inl (v7 + 1, g7))
  else
    some (.inr g)
set_option maxRecDepth 20000 in
theorem y_Y_refer_310 {L : Nat} {xs : Nat → Int32} {Q : Option Value → ab_H → Prop} {v0 : Nat} {v1 : Nat} {v3 : Int32} {v4 : Int32} {v5 : Int32} {v6 : Int32} {v7 : Int32} {g : g_S} {out : (Int32 × g_S) ⊕ (g_S)} (e : b_Y_refer_310 v0 v1 v3 v4 v5 v6 v7 g = some out) (c : cL_Y_refer_310 L xs Q v0 v1 v3 v4 v5 v6 out) : wp (ab_ext L xs) J_Y_refer 310 [(0, .ref v0), (1, .ref v1), (3, .int v3), (4, .int v4), (5, .int v5), (6, .int v6), (7, .int v7)] [] (hp g) Q := by
  unfold b_Y_refer_310 at e
  refine wp_p (j := J_Y_refer) 2 (pc' := 313) (lv' := [(0, .ref v0), (1, .ref v1), (3, .int v3), (4, .int v4), (5, .int v5), (6, .int v6), (7, .int v7)]) (st' := [.ref v0, .int v7]) rfl ?_
  refine x_gQ e rfl rfl fd_12_11 rfl (fun z1 e => ?_)
  refine wp_p (j := J_Y_refer) 1 (pc' := 318) (lv' := [(0, .ref v0), (1, .ref v1), (3, .int v3), (4, .int v4), (5, .int v5), (6, .int v6), (7, .int v7)]) (st' := [.int v6, .ref z1, .int v7]) rfl ?_
  refine x_aI e rfl rfl (fun z2 e => ?_)
  refine x_ge e rfl (fun e => ?_) (fun e => ?_)
  · refine wp_p (j := J_Y_refer) 3 (pc' := 325) (lv' := [(0, .ref v0), (1, .ref v1), (3, .int v3), (4, .int v4), (5, .int v5), (6, .int v6), (7, .int v7)]) (st' := [.ref v0, .int 0, .ref v0]) rfl ?_
    refine x_gQ e rfl rfl fd_12_9 rfl (fun z3 e => ?_)
    refine wp_p (j := J_Y_refer) 1 (pc' := 329) (lv' := [(0, .ref v0), (1, .ref v1), (3, .int v3), (4, .int v4), (5, .int v5), (6, .int v6), (7, .int v7)]) (st' := [.ref v0, .ref z3, .int 0, .ref v0]) rfl ?_
    refine x_gQ e rfl rfl fd_12_10 rfl (fun z4 e => ?_)
    refine wp_p (j := J_Y_refer) 1 (pc' := 334) (lv' := [(0, .ref v0), (1, .ref v1), (3, .int v3), (4, .int v4), (5, .int v5), (6, .int v6), (7, .int v7)]) (st' := [.int v6, .ref z4, .ref z3, .int 0, .ref v0]) rfl ?_
    refine x_aI e rfl rfl (fun z5 e => ?_)
    refine wp_p (j := J_Y_refer) 2 (pc' := 338) (lv' := [(0, .ref v0), (1, .ref v1), (3, .int v3), (4, .int v4), (5, .int v5), (6, .int v6), (7, .int v7)]) (st' := [.int (z5 + v7), .ref z3, .int 0, .ref v0]) rfl ?_
    refine x_aB e rfl (.inl rfl) rfl (fun z6 e => ?_)
    refine x_cv0 (As := [.int 0, .int z6]) (rest := []) e rfl rfl rfl rfl rfl rfl (fun h => d_Y_put h ⟨rfl, rfl⟩) (fun g7 e => ?_)
    refine wp_p (j := J_Y_refer) 2 (pc' := 310) (lv' := [(7, .int (v7 + 1)), (0, .ref v0), (1, .ref v1), (3, .int v3), (4, .int v4), (5, .int v5), (6, .int v6)]) (st' := []) rfl ?_
    have e := Option.some.inj e; subst e; exact wp_lv (lv' := [(0, .ref v0), (1, .ref v1), (3, .int v3), (4, .int v4), (5, .int v5), (6, .int v6), (7, .int (v7 + 1))]) rfl ⟨rfl, rfl, rfl, rfl, rfl, rfl, rfl, trivial⟩ c
  · have e := Option.some.inj e; subst e; exact wp_lv (lv' := [(0, .ref v0), (1, .ref v1), (3, .int v3), (4, .int v4), (5, .int v5), (6, .int v6)]) rfl ⟨rfl, rfl, rfl, rfl, rfl, rfl, trivial⟩ c
noncomputable def L_Y_refer_310 (v0 : Nat) (v1 : Nat) (v3 : Int32) (v4 : Int32) (v5 : Int32) (v6 : Int32) (v7 : Int32) (g : g_S) : Option (g_S) := it (fun s : Int32 × g_S => b_Y_refer_310 v0 v1 v3 v4 v5 v6 s.1 s.2) (v7, g)
theorem l_Y_refer_310 {L : Nat} {xs : Nat → Int32} {Q : Option Value → ab_H → Prop} {v0 : Nat} {v1 : Nat} {v3 : Int32} {v4 : Int32} {v5 : Int32} {v6 : Int32} {v7 : Int32} {g : g_S} {r : g_S} (e : L_Y_refer_310 v0 v1 v3 v4 v5 v6 v7 g = some r) (c : cL_Y_refer_310 L xs Q v0 v1 v3 v4 v5 v6 (.inr r)) : wp (ab_ext L xs) J_Y_refer 310 [(0, .ref v0), (1, .ref v1), (3, .int v3), (4, .int v4), (5, .int v5), (6, .int v6), (7, .int v7)] [] (hp g) Q :=
  it_wp (P := fun s : Int32 × g_S => wp (ab_ext L xs) J_Y_refer 310 [(0, .ref v0), (1, .ref v1), (3, .int v3), (4, .int v4), (5, .int v5), (6, .int v6), (7, .int s.1)] [] (hp s.2) Q) (E := fun r => cL_Y_refer_310 L xs Q v0 v1 v3 v4 v5 v6 (.inr r)) (fun s out e c => y_Y_refer_310 e (by cases out <;> exact c)) e c
theorem L_Y_refer_310_eq (v0 : Nat) (v1 : Nat) (v3 : Int32) (v4 : Int32) (v5 : Int32) (v6 : Int32) (v7 : Int32) (g : g_S) : L_Y_refer_310 v0 v1 v3 v4 v5 v6 v7 g = itc (b_Y_refer_310 v0 v1 v3 v4 v5 v6 v7 g) (fun s => L_Y_refer_310 v0 v1 v3 v4 v5 v6 s.1 s.2) := it_eq2 (fun s : Int32 × g_S => b_Y_refer_310 v0 v1 v3 v4 v5 v6 s.1 s.2) (v7, g)
def cL_Y_refer_291 (L : Nat) (xs : Nat → Int32) (Q : Option Value → ab_H → Prop) (v0 : Nat) (v1 : Nat) (v3 : Int32) (v4 : Int32) (v5 : Int32) (out : (Int32 × g_S) ⊕ (g_S)) : Prop := match out with
  | .inl s => wp (ab_ext L xs) J_Y_refer 291 [(0, .ref v0), (1, .ref v1), (3, .int v3), (4, .int v4), (5, .int v5), (6, .int s.1)] [] (hp s.2) Q
  | .inr s => wp (ab_ext L xs) J_Y_refer 354 [(0, .ref v0), (1, .ref v1), (3, .int v3), (4, .int v4), (5, .int v5)] [] (hp s) Q
noncomputable def b_Y_refer_291 (v0 : Nat) (v1 : Nat) (v3 : Int32) (v4 : Int32) (v5 : Int32) (v6 : Int32) (g : g_S) : Option ((Int32 × g_S) ⊕ (g_S)) :=
  (rI g 112 v0 12).bind fun z1 =>
  if v6 < z1 then
    (vc g 112 v0 (M_Y_put v0 0 47 g)).bind fun g2 =>
    (L_Y_refer_310 v0 v1 v3 v4 v5 v6 0 g2).bind <| fun g5 =>
    some (.inl (v6 + 1, g5))
  else
    some (.inr g)
set_option maxRecDepth 20000 in
theorem y_Y_refer_291 {L : Nat} {xs : Nat → Int32} {Q : Option Value → ab_H → Prop} {v0 : Nat} {v1 : Nat} {v3 : Int32} {v4 : Int32} {v5 : Int32} {v6 : Int32} {g : g_S} {out : (Int32 × g_S) ⊕ (g_S)} (e : b_Y_refer_291 v0 v1 v3 v4 v5 v6 g = some out) (c : cL_Y_refer_291 L xs Q v0 v1 v3 v4 v5 out) : wp (ab_ext L xs) J_Y_refer 291 [(0, .ref v0), (1, .ref v1), (3, .int v3), (4, .int v4), (5, .int v5), (6, .int v6)] [] (hp g) Q := by
  unfold b_Y_refer_291 at e
  refine wp_p (j := J_Y_refer) 2 (pc' := 294) (lv' := [(0, .ref v0), (1, .ref v1), (3, .int v3), (4, .int v4), (5, .int v5), (6, .int v6)]) (st' := [.ref v0, .int v6]) rfl ?_
  refine x_gI e rfl rfl fd_12_12 rfl (fun z1 e => ?_)
  refine x_ge e rfl (fun e => ?_) (fun e => ?_)
  · refine wp_p (j := J_Y_refer) 3 (pc' := 304) (lv' := [(0, .ref v0), (1, .ref v1), (3, .int v3), (4, .int v4), (5, .int v5), (6, .int v6)]) (st' := [.int 47, .int 0, .ref v0]) rfl ?_
    refine x_cv0 (As := [.int 0, .int 47]) (rest := []) e rfl rfl rfl rfl rfl rfl (fun h => d_Y_put h ⟨rfl, rfl⟩) (fun g2 e => ?_)
    refine wp_p (j := J_Y_refer) 2 (pc' := 310) (lv' := [(7, .int 0), (0, .ref v0), (1, .ref v1), (3, .int v3), (4, .int v4), (5, .int v5), (6, .int v6)]) (st' := []) rfl ?_
    obtain ⟨g5, h4, e⟩ := bd e
    refine wp_lv (lv' := [(0, .ref v0), (1, .ref v1), (3, .int v3), (4, .int v4), (5, .int v5), (6, .int v6), (7, .int 0)]) rfl ⟨rfl, rfl, rfl, rfl, rfl, rfl, rfl, trivial⟩ ?_
    refine l_Y_refer_310 h4 ?_
    show wp (ab_ext L xs) J_Y_refer 348 [(0, .ref v0), (1, .ref v1), (3, .int v3), (4, .int v4), (5, .int v5), (6, .int v6)] [] (hp g5) Q
    refine wp_p (j := J_Y_refer) 2 (pc' := 291) (lv' := [(6, .int (v6 + 1)), (0, .ref v0), (1, .ref v1), (3, .int v3), (4, .int v4), (5, .int v5)]) (st' := []) rfl ?_
    have e := Option.some.inj e; subst e; exact wp_lv (lv' := [(0, .ref v0), (1, .ref v1), (3, .int v3), (4, .int v4), (5, .int v5), (6, .int (v6 + 1))]) rfl ⟨rfl, rfl, rfl, rfl, rfl, rfl, trivial⟩ c
  · have e := Option.some.inj e; subst e; exact wp_lv (lv' := [(0, .ref v0), (1, .ref v1), (3, .int v3), (4, .int v4), (5, .int v5)]) rfl ⟨rfl, rfl, rfl, rfl, rfl, trivial⟩ c
noncomputable def L_Y_refer_291 (v0 : Nat) (v1 : Nat) (v3 : Int32) (v4 : Int32) (v5 : Int32) (v6 : Int32) (g : g_S) : Option (g_S) := it (fun s : Int32 × g_S => b_Y_refer_291 v0 v1 v3 v4 v5 s.1 s.2) (v6, g)
theorem l_Y_refer_291 {L : Nat} {xs : Nat → Int32} {Q : Option Value → ab_H → Prop} {v0 : Nat} {v1 : Nat} {v3 : Int32} {v4 : Int32} {v5 : Int32} {v6 : Int32} {g : g_S} {r : g_S} (e : L_Y_refer_291 v0 v1 v3 v4 v5 v6 g = some r) (c : cL_Y_refer_291 L xs Q v0 v1 v3 v4 v5 (.inr r)) : wp (ab_ext L xs) J_Y_refer 291 [(0, .ref v0), (1, .ref v1), (3, .int v3), (4, .int v4), (5, .int v5), (6, .int v6)] [] (hp g) Q :=
  it_wp (P := fun s : Int32 × g_S => wp (ab_ext L xs) J_Y_refer 291 [(0, .ref v0), (1, .ref v1), (3, .int v3), (4, .int v4), (5, .int v5), (6, .int s.1)] [] (hp s.2) Q) (E := fun r => cL_Y_refer_291 L xs Q v0 v1 v3 v4 v5 (.inr r)) (fun s out e c => y_Y_refer_291 e (by cases out <;> exact c)) e c
theorem L_Y_refer_291_eq (v0 : Nat) (v1 : Nat) (v3 : Int32) (v4 : Int32) (v5 : Int32) (v6 : Int32) (g : g_S) : L_Y_refer_291 v0 v1 v3 v4 v5 v6 g = itc (b_Y_refer_291 v0 v1 v3 v4 v5 v6 g) (fun s => L_Y_refer_291 v0 v1 v3 v4 v5 s.1 s.2) := it_eq2 (fun s : Int32 × g_S => b_Y_refer_291 v0 v1 v3 v4 v5 s.1 s.2) (v6, g)
noncomputable def k_Y_refer_277 (v0 : Nat) (v1 : Nat) (v3 : Int32) (v4 : Int32) (v5 : Int32) (g : g_S) : Option (Int32 × g_S) :=
  (rI g 112 v0 12).bind fun z1 =>
  if 6 < z1 then
    some (0, g)
  else
    (L_Y_refer_291 v0 v1 v3 v4 v5 0 g).bind <| fun g4 =>
    c2 (vc g4 112 v0 (M_Y_query v0 v1 v3 v4 v5 g4)) fun z5 g6 =>
    (tz z5).bind fun z7 =>
    some (z7, g6)
set_option maxRecDepth 20000 in
theorem x_Y_refer_277 {L : Nat} {xs : Nat → Int32} {Q : Option Value → ab_H → Prop} {v0 : Nat} {v1 : Nat} {v3 : Int32} {v4 : Int32} {v5 : Int32} {g : g_S} {out : Int32 × g_S} (e : k_Y_refer_277 v0 v1 v3 v4 v5 g = some out) (c : Q (some (.int out.1)) (hp out.2)) : wp (ab_ext L xs) J_Y_refer 277 [(0, .ref v0), (1, .ref v1), (3, .int v3), (4, .int v4), (5, .int v5)] [] (hp g) Q := by
  unfold k_Y_refer_277 at e
  refine wp_p (j := J_Y_refer) 1 (pc' := 278) (lv' := [(0, .ref v0), (1, .ref v1), (3, .int v3), (4, .int v4), (5, .int v5)]) (st' := [.ref v0]) rfl ?_
  refine x_gI e rfl rfl fd_12_12 rfl (fun z1 e => ?_)
  refine wp_p (j := J_Y_refer) 1 (pc' := 283) (lv' := [(0, .ref v0), (1, .ref v1), (3, .int v3), (4, .int v4), (5, .int v5)]) (st' := [.int 6, .int z1]) rfl ?_
  refine x_le e rfl (fun e => ?_) (fun e => ?_)
  · refine wp_p (j := J_Y_refer) 1 (pc' := 287) (lv' := [(0, .ref v0), (1, .ref v1), (3, .int v3), (4, .int v4), (5, .int v5)]) (st' := [.int 0]) rfl ?_
    have e := Option.some.inj e; subst e; exact wp_iret (ty := .boolean) rfl rfl (by decide) c
  · refine wp_p (j := J_Y_refer) 2 (pc' := 291) (lv' := [(6, .int 0), (0, .ref v0), (1, .ref v1), (3, .int v3), (4, .int v4), (5, .int v5)]) (st' := []) rfl ?_
    obtain ⟨g4, h3, e⟩ := bd e
    refine wp_lv (lv' := [(0, .ref v0), (1, .ref v1), (3, .int v3), (4, .int v4), (5, .int v5), (6, .int 0)]) rfl ⟨rfl, rfl, rfl, rfl, rfl, rfl, trivial⟩ ?_
    refine l_Y_refer_291 h3 ?_
    show wp (ab_ext L xs) J_Y_refer 354 [(0, .ref v0), (1, .ref v1), (3, .int v3), (4, .int v4), (5, .int v5)] [] (hp g4) Q
    refine wp_p (j := J_Y_refer) 5 (pc' := 361) (lv' := [(0, .ref v0), (1, .ref v1), (3, .int v3), (4, .int v4), (5, .int v5)]) (st' := [.int v5, .int v4, .int v3, .ref v1, .ref v0]) rfl ?_
    refine x_cv2 (As := [.ref v1, .int v3, .int v4, .int v5]) (rest := []) Value.int e rfl rfl rfl rfl rfl rfl (fun h => d_Y_query h ⟨rfl, rfl⟩) (fun z5 g6 e => ?_)
    obtain ⟨h8, e⟩ := tz_ok e
    have e := Option.some.inj e; subst e; exact wp_iret (ty := .boolean) rfl rfl h8 c
noncomputable def k_Y_refer_270 (v0 : Nat) (v1 : Nat) (v2 : Int32) (v3 : Int32) (v4 : Int32) (v5 : Int32) (g : g_S) : Option (Int32 × g_S) :=
  (vc g 112 v0 (M_Y_segment v0 v1 v2 0 g)).bind fun g1 =>
  k_Y_refer_277 v0 v1 v3 v4 v5 g1
set_option maxRecDepth 20000 in
theorem x_Y_refer_270 {L : Nat} {xs : Nat → Int32} {Q : Option Value → ab_H → Prop} {v0 : Nat} {v1 : Nat} {v2 : Int32} {v3 : Int32} {v4 : Int32} {v5 : Int32} {g : g_S} {out : Int32 × g_S} (e : k_Y_refer_270 v0 v1 v2 v3 v4 v5 g = some out) (c : Q (some (.int out.1)) (hp out.2)) : wp (ab_ext L xs) J_Y_refer 270 [(0, .ref v0), (1, .ref v1), (2, .int v2), (3, .int v3), (4, .int v4), (5, .int v5)] [] (hp g) Q := by
  unfold k_Y_refer_270 at e
  refine wp_p (j := J_Y_refer) 4 (pc' := 274) (lv' := [(0, .ref v0), (1, .ref v1), (2, .int v2), (3, .int v3), (4, .int v4), (5, .int v5)]) (st' := [.int 0, .int v2, .ref v1, .ref v0]) rfl ?_
  refine x_cv0 (As := [.ref v1, .int v2, .int 0]) (rest := []) e rfl rfl rfl rfl rfl rfl (fun h => d_Y_segment h ⟨rfl, rfl⟩) (fun g1 e => ?_)
  exact wp_lv (lv' := [(0, .ref v0), (1, .ref v1), (3, .int v3), (4, .int v4), (5, .int v5)]) rfl ⟨rfl, rfl, rfl, rfl, rfl, trivial⟩ (x_Y_refer_277 e c)
noncomputable def k_Y_refer_256 (v0 : Nat) (v1 : Nat) (v2 : Int32) (v3 : Int32) (v4 : Int32) (v5 : Int32) (g : g_S) : Option (Int32 × g_S) :=
  (rI g 112 v0 14).bind fun z1 =>
  if z1 = 0 then
    (rI g 112 v0 12).bind fun z2 =>
    if z2 = 0 then
      k_Y_refer_270 v0 v1 v2 v3 v4 v5 g
    else
      k_Y_refer_277 v0 v1 v3 v4 v5 g
  else
    k_Y_refer_270 v0 v1 v2 v3 v4 v5 g
set_option maxRecDepth 20000 in
theorem x_Y_refer_256 {L : Nat} {xs : Nat → Int32} {Q : Option Value → ab_H → Prop} {v0 : Nat} {v1 : Nat} {v2 : Int32} {v3 : Int32} {v4 : Int32} {v5 : Int32} {g : g_S} {out : Int32 × g_S} (e : k_Y_refer_256 v0 v1 v2 v3 v4 v5 g = some out) (c : Q (some (.int out.1)) (hp out.2)) : wp (ab_ext L xs) J_Y_refer 256 [(0, .ref v0), (1, .ref v1), (2, .int v2), (3, .int v3), (4, .int v4), (5, .int v5)] [] (hp g) Q := by
  unfold k_Y_refer_256 at e
  refine wp_p (j := J_Y_refer) 1 (pc' := 257) (lv' := [(0, .ref v0), (1, .ref v1), (2, .int v2), (3, .int v3), (4, .int v4), (5, .int v5)]) (st' := [.ref v0]) rfl ?_
  refine x_gI e rfl rfl fd_12_14 rfl (fun z1 e => ?_)
  refine z_ne e rfl (fun e => ?_) (fun e => ?_)
  · refine wp_p (j := J_Y_refer) 1 (pc' := 264) (lv' := [(0, .ref v0), (1, .ref v1), (2, .int v2), (3, .int v3), (4, .int v4), (5, .int v5)]) (st' := [.ref v0]) rfl ?_
    refine x_gI e rfl rfl fd_12_12 rfl (fun z2 e => ?_)
    refine z_ne e rfl (fun e => ?_) (fun e => ?_)
    · exact wp_lv (lv' := [(0, .ref v0), (1, .ref v1), (2, .int v2), (3, .int v3), (4, .int v4), (5, .int v5)]) rfl ⟨rfl, rfl, rfl, rfl, rfl, rfl, trivial⟩ (x_Y_refer_270 e c)
    · exact wp_lv (lv' := [(0, .ref v0), (1, .ref v1), (3, .int v3), (4, .int v4), (5, .int v5)]) rfl ⟨rfl, rfl, rfl, rfl, rfl, trivial⟩ (x_Y_refer_277 e c)
  · exact wp_lv (lv' := [(0, .ref v0), (1, .ref v1), (2, .int v2), (3, .int v3), (4, .int v4), (5, .int v5)]) rfl ⟨rfl, rfl, rfl, rfl, rfl, rfl, trivial⟩ (x_Y_refer_270 e c)
noncomputable def k_Y_refer_246 (v0 : Nat) (v1 : Nat) (v2 : Int32) (v3 : Int32) (v4 : Int32) (g : g_S) : Option (Int32 × g_S) :=
  (vc g 112 v0 (M_Y_baseSegments v0 v4 1 g)).bind fun g1 =>
  k_Y_refer_256 v0 v1 v2 v3 v4 0 g1
set_option maxRecDepth 20000 in
theorem x_Y_refer_246 {L : Nat} {xs : Nat → Int32} {Q : Option Value → ab_H → Prop} {v0 : Nat} {v1 : Nat} {v2 : Int32} {v3 : Int32} {v4 : Int32} {g : g_S} {out : Int32 × g_S} (e : k_Y_refer_246 v0 v1 v2 v3 v4 g = some out) (c : Q (some (.int out.1)) (hp out.2)) : wp (ab_ext L xs) J_Y_refer 246 [(0, .ref v0), (1, .ref v1), (2, .int v2), (3, .int v3), (4, .int v4)] [] (hp g) Q := by
  unfold k_Y_refer_246 at e
  refine wp_p (j := J_Y_refer) 5 (pc' := 253) (lv' := [(5, .int 0), (0, .ref v0), (1, .ref v1), (2, .int v2), (3, .int v3), (4, .int v4)]) (st' := [.int 1, .int v4, .ref v0]) rfl ?_
  refine x_cv0 (As := [.int v4, .int 1]) (rest := []) e rfl rfl rfl rfl rfl rfl (fun h => d_Y_baseSegments h ⟨rfl, rfl⟩) (fun g1 e => ?_)
  exact wp_lv (lv' := [(0, .ref v0), (1, .ref v1), (2, .int v2), (3, .int v3), (4, .int v4), (5, .int 0)]) rfl ⟨rfl, rfl, rfl, rfl, rfl, rfl, trivial⟩ (x_Y_refer_256 e c)
noncomputable def k_Y_refer_205 (v0 : Nat) (v1 : Nat) (v2 : Int32) (v3 : Int32) (v4 : Int32) (v5 : Int32) (g : g_S) : Option (Int32 × g_S) :=
  if v2 < v3 then
    (aI g 1 v1 v2).bind fun z1 =>
    (M_Y_isSegment z1 g).bind fun z2 =>
    if z2 = 0 then
      k_Y_refer_246 v0 v1 v2 v3 v4 g
    else
      (vc g 112 v0 (M_Y_baseSegments v0 v4 0 g)).bind fun g3 =>
      c2 (vc g3 112 v0 (M_Y_oneSegment v0 v1 v3 g3)) fun z4 g5 =>
      if z4 = 0 then
        some (0, g5)
      else
        c2 (vc g5 112 v0 (M_Y_segments v0 v1 v3 g5)) fun z6 g7 =>
        if z6 = 0 then
          some (0, g7)
        else
          k_Y_refer_256 v0 v1 v2 v3 v4 v5 g7
  else
    k_Y_refer_246 v0 v1 v2 v3 v4 g
set_option maxRecDepth 20000 in
theorem x_Y_refer_205 {L : Nat} {xs : Nat → Int32} {Q : Option Value → ab_H → Prop} {v0 : Nat} {v1 : Nat} {v2 : Int32} {v3 : Int32} {v4 : Int32} {v5 : Int32} {g : g_S} {out : Int32 × g_S} (e : k_Y_refer_205 v0 v1 v2 v3 v4 v5 g = some out) (c : Q (some (.int out.1)) (hp out.2)) : wp (ab_ext L xs) J_Y_refer 205 [(0, .ref v0), (1, .ref v1), (2, .int v2), (3, .int v3), (4, .int v4), (5, .int v5)] [] (hp g) Q := by
  unfold k_Y_refer_205 at e
  refine wp_p (j := J_Y_refer) 2 (pc' := 207) (lv' := [(0, .ref v0), (1, .ref v1), (2, .int v2), (3, .int v3), (4, .int v4), (5, .int v5)]) (st' := [.int v3, .int v2]) rfl ?_
  refine x_ge e rfl (fun e => ?_) (fun e => ?_)
  · refine wp_p (j := J_Y_refer) 2 (pc' := 212) (lv' := [(0, .ref v0), (1, .ref v1), (2, .int v2), (3, .int v3), (4, .int v4), (5, .int v5)]) (st' := [.int v2, .ref v1]) rfl ?_
    refine x_aB e rfl (.inl rfl) rfl (fun z1 e => ?_)
    refine x_cs1 (As := [.int z1]) (rest := []) Value.int e rfl rfl rfl rfl rfl (fun h => d_Y_isSegment h ⟨rfl, rfl⟩) (fun z2 e => ?_)
    refine z_eq e rfl (fun e => ?_) (fun e => ?_)
    · exact wp_lv (lv' := [(0, .ref v0), (1, .ref v1), (2, .int v2), (3, .int v3), (4, .int v4)]) rfl ⟨rfl, rfl, rfl, rfl, rfl, trivial⟩ (x_Y_refer_246 e c)
    · refine wp_p (j := J_Y_refer) 3 (pc' := 223) (lv' := [(0, .ref v0), (1, .ref v1), (2, .int v2), (3, .int v3), (4, .int v4), (5, .int v5)]) (st' := [.int 0, .int v4, .ref v0]) rfl ?_
      refine x_cv0 (As := [.int v4, .int 0]) (rest := []) e rfl rfl rfl rfl rfl rfl (fun h => d_Y_baseSegments h ⟨rfl, rfl⟩) (fun g3 e => ?_)
      refine wp_p (j := J_Y_refer) 3 (pc' := 229) (lv' := [(0, .ref v0), (1, .ref v1), (2, .int v2), (3, .int v3), (4, .int v4), (5, .int v5)]) (st' := [.int v3, .ref v1, .ref v0]) rfl ?_
      refine x_cv2 (As := [.ref v1, .int v3]) (rest := []) Value.int e rfl rfl rfl rfl rfl rfl (fun h => d_Y_oneSegment h ⟨rfl, rfl⟩) (fun z4 g5 e => ?_)
      refine z_eq e rfl (fun e => ?_) (fun e => ?_)
      · refine wp_p (j := J_Y_refer) 1 (pc' := 245) (lv' := [(0, .ref v0), (1, .ref v1), (2, .int v2), (3, .int v3), (4, .int v4), (5, .int v5)]) (st' := [.int 0]) rfl ?_
        have e := Option.some.inj e; subst e; exact wp_iret (ty := .boolean) rfl rfl (by decide) c
      · refine wp_p (j := J_Y_refer) 3 (pc' := 238) (lv' := [(0, .ref v0), (1, .ref v1), (2, .int v2), (3, .int v3), (4, .int v4), (5, .int v5)]) (st' := [.int v3, .ref v1, .ref v0]) rfl ?_
        refine x_cv2 (As := [.ref v1, .int v3]) (rest := []) Value.int e rfl rfl rfl rfl rfl rfl (fun h => d_Y_segments h ⟨rfl, rfl⟩) (fun z6 g7 e => ?_)
        refine z_ne e rfl (fun e => ?_) (fun e => ?_)
        · refine wp_p (j := J_Y_refer) 1 (pc' := 245) (lv' := [(0, .ref v0), (1, .ref v1), (2, .int v2), (3, .int v3), (4, .int v4), (5, .int v5)]) (st' := [.int 0]) rfl ?_
          have e := Option.some.inj e; subst e; exact wp_iret (ty := .boolean) rfl rfl (by decide) c
        · exact wp_lv (lv' := [(0, .ref v0), (1, .ref v1), (2, .int v2), (3, .int v3), (4, .int v4), (5, .int v5)]) rfl ⟨rfl, rfl, rfl, rfl, rfl, rfl, trivial⟩ (x_Y_refer_256 e c)
  · exact wp_lv (lv' := [(0, .ref v0), (1, .ref v1), (2, .int v2), (3, .int v3), (4, .int v4)]) rfl ⟨rfl, rfl, rfl, rfl, rfl, trivial⟩ (x_Y_refer_246 e c)
noncomputable def k_Y_refer_138 (v0 : Nat) (v1 : Nat) (v2 : Int32) (v3 : Int32) (v4 : Int32) (v5 : Int32) (g : g_S) : Option (Int32 × g_S) :=
  (vc g 112 v0 (M_Y_siteEnd v0 v4 g)).bind fun z1 =>
  (L_Y_refer_149 v0 v1 v2 v3 v4 v5 z1 0 g).bind <| fun g4 =>
  if v2 < v3 then
    (aI g4 1 v1 v2).bind fun z5 =>
    if z5 = 47 then
      c2 (vc g4 112 v0 (M_Y_segments v0 v1 v3 g4)) fun z6 g7 =>
      if z6 = 0 then
        some (0, g7)
      else
        k_Y_refer_256 v0 v1 v2 v3 v4 v5 g7
    else
      k_Y_refer_205 v0 v1 v2 v3 v4 v5 g4
  else
    k_Y_refer_205 v0 v1 v2 v3 v4 v5 g4
set_option maxRecDepth 20000 in
theorem x_Y_refer_138 {L : Nat} {xs : Nat → Int32} {Q : Option Value → ab_H → Prop} {v0 : Nat} {v1 : Nat} {v2 : Int32} {v3 : Int32} {v4 : Int32} {v5 : Int32} {g : g_S} {out : Int32 × g_S} (e : k_Y_refer_138 v0 v1 v2 v3 v4 v5 g = some out) (c : Q (some (.int out.1)) (hp out.2)) : wp (ab_ext L xs) J_Y_refer 138 [(0, .ref v0), (1, .ref v1), (2, .int v2), (3, .int v3), (4, .int v4), (5, .int v5)] [] (hp g) Q := by
  unfold k_Y_refer_138 at e
  refine wp_p (j := J_Y_refer) 2 (pc' := 141) (lv' := [(0, .ref v0), (1, .ref v1), (2, .int v2), (3, .int v3), (4, .int v4), (5, .int v5)]) (st' := [.int v4, .ref v0]) rfl ?_
  refine x_cv1 (As := [.int v4]) (rest := []) Value.int e rfl rfl rfl rfl rfl rfl (fun h => d_Y_siteEnd h ⟨rfl, rfl⟩) (fun z1 e => ?_)
  refine wp_p (j := J_Y_refer) 3 (pc' := 149) (lv' := [(7, .int 0), (6, .int z1), (0, .ref v0), (1, .ref v1), (2, .int v2), (3, .int v3), (4, .int v4), (5, .int v5)]) (st' := []) rfl ?_
  obtain ⟨g4, h3, e⟩ := bd e
  refine wp_lv (lv' := [(0, .ref v0), (1, .ref v1), (2, .int v2), (3, .int v3), (4, .int v4), (5, .int v5), (6, .int z1), (7, .int 0)]) rfl ⟨rfl, rfl, rfl, rfl, rfl, rfl, rfl, rfl, trivial⟩ ?_
  refine l_Y_refer_149 h3 ?_
  show wp (ab_ext L xs) J_Y_refer 181 [(0, .ref v0), (1, .ref v1), (2, .int v2), (3, .int v3), (4, .int v4), (5, .int v5)] [] (hp g4) Q
  refine wp_p (j := J_Y_refer) 2 (pc' := 183) (lv' := [(0, .ref v0), (1, .ref v1), (2, .int v2), (3, .int v3), (4, .int v4), (5, .int v5)]) (st' := [.int v3, .int v2]) rfl ?_
  refine x_ge e rfl (fun e => ?_) (fun e => ?_)
  · refine wp_p (j := J_Y_refer) 2 (pc' := 188) (lv' := [(0, .ref v0), (1, .ref v1), (2, .int v2), (3, .int v3), (4, .int v4), (5, .int v5)]) (st' := [.int v2, .ref v1]) rfl ?_
    refine x_aB e rfl (.inl rfl) rfl (fun z5 e => ?_)
    refine wp_p (j := J_Y_refer) 1 (pc' := 191) (lv' := [(0, .ref v0), (1, .ref v1), (2, .int v2), (3, .int v3), (4, .int v4), (5, .int v5)]) (st' := [.int 47, .int z5]) rfl ?_
    refine x_ne e rfl (fun e => ?_) (fun e => ?_)
    · refine wp_p (j := J_Y_refer) 3 (pc' := 197) (lv' := [(0, .ref v0), (1, .ref v1), (2, .int v2), (3, .int v3), (4, .int v4), (5, .int v5)]) (st' := [.int v3, .ref v1, .ref v0]) rfl ?_
      refine x_cv2 (As := [.ref v1, .int v3]) (rest := []) Value.int e rfl rfl rfl rfl rfl rfl (fun h => d_Y_segments h ⟨rfl, rfl⟩) (fun z6 g7 e => ?_)
      refine z_ne e rfl (fun e => ?_) (fun e => ?_)
      · refine wp_p (j := J_Y_refer) 1 (pc' := 204) (lv' := [(0, .ref v0), (1, .ref v1), (2, .int v2), (3, .int v3), (4, .int v4), (5, .int v5)]) (st' := [.int 0]) rfl ?_
        have e := Option.some.inj e; subst e; exact wp_iret (ty := .boolean) rfl rfl (by decide) c
      · exact wp_lv (lv' := [(0, .ref v0), (1, .ref v1), (2, .int v2), (3, .int v3), (4, .int v4), (5, .int v5)]) rfl ⟨rfl, rfl, rfl, rfl, rfl, rfl, trivial⟩ (x_Y_refer_256 e c)
    · exact wp_lv (lv' := [(0, .ref v0), (1, .ref v1), (2, .int v2), (3, .int v3), (4, .int v4), (5, .int v5)]) rfl ⟨rfl, rfl, rfl, rfl, rfl, rfl, trivial⟩ (x_Y_refer_205 e c)
  · exact wp_lv (lv' := [(0, .ref v0), (1, .ref v1), (2, .int v2), (3, .int v3), (4, .int v4), (5, .int v5)]) rfl ⟨rfl, rfl, rfl, rfl, rfl, rfl, trivial⟩ (x_Y_refer_205 e c)
noncomputable def k_Y_refer_135 (v0 : Nat) (v1 : Nat) (v2 : Int32) (v3 : Int32) (v4 : Int32) (v5 : Int32) (g : g_S) : Option (Int32 × g_S) :=
  k_Y_refer_256 v0 v1 v2 v3 v4 v5 g
set_option maxRecDepth 20000 in
theorem x_Y_refer_135 {L : Nat} {xs : Nat → Int32} {Q : Option Value → ab_H → Prop} {v0 : Nat} {v1 : Nat} {v2 : Int32} {v3 : Int32} {v4 : Int32} {v5 : Int32} {g : g_S} {out : Int32 × g_S} (e : k_Y_refer_135 v0 v1 v2 v3 v4 v5 g = some out) (c : Q (some (.int out.1)) (hp out.2)) : wp (ab_ext L xs) J_Y_refer 135 [(0, .ref v0), (1, .ref v1), (2, .int v2), (3, .int v3), (4, .int v4), (5, .int v5)] [] (hp g) Q := by
  unfold k_Y_refer_135 at e
  refine wp_p (j := J_Y_refer) 1 (pc' := 256) (lv' := [(0, .ref v0), (1, .ref v1), (2, .int v2), (3, .int v3), (4, .int v4), (5, .int v5)]) (st' := []) rfl ?_
  exact wp_lv (lv' := [(0, .ref v0), (1, .ref v1), (2, .int v2), (3, .int v3), (4, .int v4), (5, .int v5)]) rfl ⟨rfl, rfl, rfl, rfl, rfl, rfl, trivial⟩ (x_Y_refer_256 e c)
noncomputable def M_Y_refer (v0 : Nat) (v1 : Nat) (v2 : Int32) (v3 : Int32) (v4 : Int32) (g : g_S) : Option (Int32 × g_S) :=
  (wI g 112 v0 12 0).bind fun g1 =>
  (wZ g1 112 v0 14 0).bind fun g2 =>
  (wI g2 112 v0 15 v2).bind fun g3 =>
  (rQ g3 112 v0 7).bind fun z4 =>
  (sI g3 z4 0 0).bind fun g5 =>
  (rQ g5 112 v0 8).bind fun z6 =>
  (sI g5 z6 0 0).bind fun g7 =>
  if (v2 + 1) < v3 then
    (aI g7 1 v1 v2).bind fun z8 =>
    if z8 = 47 then
      (aI g7 1 v1 (v2 + 1)).bind fun z9 =>
      if z9 = 47 then
        (M_Y_nameEnd v1 (v2 + 2) v3 g7).bind fun z10 =>
        if z10 = (v2 + 2) then
          some (0, g7)
        else
          (L_Y_refer_80 v0 v1 v2 v3 v4 1 z10 v2 g7).bind <| fun g13 =>
          (wI g13 112 v0 15 z10).bind fun g14 =>
          c2 (vc g14 112 v0 (M_Y_segments v0 v1 v3 g14)) fun z15 g16 =>
          if z15 = 0 then
            some (0, g16)
          else
            (rI g16 112 v0 15).bind fun z17 =>
            if z10 = z17 then
              (vc g16 112 v0 (M_Y_segment v0 v1 v2 0 g16)).bind fun g18 =>
              k_Y_refer_135 v0 v1 v2 v3 v4 1 g18
            else
              k_Y_refer_135 v0 v1 v2 v3 v4 1 g16
      else
        k_Y_refer_138 v0 v1 v2 v3 v4 1 g7
    else
      k_Y_refer_138 v0 v1 v2 v3 v4 1 g7
  else
    k_Y_refer_138 v0 v1 v2 v3 v4 1 g7
set_option maxRecDepth 20000 in
theorem d_Y_refer {L : Nat} {xs : Nat → Int32} {Q : Option Value → ab_H → Prop} {v0 : Nat} {v1 : Nat} {v2 : Int32} {v3 : Int32} {v4 : Int32} {g : g_S} {out : Int32 × g_S} (e : M_Y_refer v0 v1 v2 v3 v4 g = some out) (c : Q (some (.int out.1)) (hp out.2)) : mw (ab_ext L xs) J_Y_refer [.ref v0, .ref v1, .int v2, .int v3, .int v4] (hp g) Q := by
  unfold M_Y_refer at e
  refine wp_p (j := J_Y_refer) 2 (pc' := 2) (lv' := [(0, .ref v0), (1, .ref v1), (2, .int v2), (3, .int v3), (4, .int v4)]) (st' := [.int 0, .ref v0]) rfl ?_
  refine x_pI e rfl rfl fw_12_12 rfl (fun g1 e => ?_)
  refine wp_p (j := J_Y_refer) 2 (pc' := 7) (lv' := [(0, .ref v0), (1, .ref v1), (2, .int v2), (3, .int v3), (4, .int v4)]) (st' := [.int 0, .ref v0]) rfl ?_
  refine x_pZ e rfl rfl fw_12_14 rfl (fun g2 e => ?_)
  refine wp_p (j := J_Y_refer) 2 (pc' := 12) (lv' := [(0, .ref v0), (1, .ref v1), (2, .int v2), (3, .int v3), (4, .int v4)]) (st' := [.int v2, .ref v0]) rfl ?_
  refine x_pI e rfl rfl fw_12_15 rfl (fun g3 e => ?_)
  refine wp_p (j := J_Y_refer) 1 (pc' := 16) (lv' := [(0, .ref v0), (1, .ref v1), (2, .int v2), (3, .int v3), (4, .int v4)]) (st' := [.ref v0]) rfl ?_
  refine x_gQ e rfl rfl fd_12_7 rfl (fun z4 e => ?_)
  refine wp_p (j := J_Y_refer) 2 (pc' := 21) (lv' := [(0, .ref v0), (1, .ref v1), (2, .int v2), (3, .int v3), (4, .int v4)]) (st' := [.int 0, .int 0, .ref z4]) rfl ?_
  refine x_sI e rfl rfl (fun g5 e => ?_)
  refine wp_p (j := J_Y_refer) 1 (pc' := 23) (lv' := [(0, .ref v0), (1, .ref v1), (2, .int v2), (3, .int v3), (4, .int v4)]) (st' := [.ref v0]) rfl ?_
  refine x_gQ e rfl rfl fd_12_8 rfl (fun z6 e => ?_)
  refine wp_p (j := J_Y_refer) 2 (pc' := 28) (lv' := [(0, .ref v0), (1, .ref v1), (2, .int v2), (3, .int v3), (4, .int v4)]) (st' := [.int 0, .int 0, .ref z6]) rfl ?_
  refine x_sI e rfl rfl (fun g7 e => ?_)
  refine wp_p (j := J_Y_refer) 6 (pc' := 36) (lv' := [(5, .int 1), (0, .ref v0), (1, .ref v1), (2, .int v2), (3, .int v3), (4, .int v4)]) (st' := [.int v3, .int (v2 + 1)]) rfl ?_
  refine x_ge e rfl (fun e => ?_) (fun e => ?_)
  · refine wp_p (j := J_Y_refer) 2 (pc' := 41) (lv' := [(5, .int 1), (0, .ref v0), (1, .ref v1), (2, .int v2), (3, .int v3), (4, .int v4)]) (st' := [.int v2, .ref v1]) rfl ?_
    refine x_aB e rfl (.inl rfl) rfl (fun z8 e => ?_)
    refine wp_p (j := J_Y_refer) 1 (pc' := 44) (lv' := [(5, .int 1), (0, .ref v0), (1, .ref v1), (2, .int v2), (3, .int v3), (4, .int v4)]) (st' := [.int 47, .int z8]) rfl ?_
    refine x_ne e rfl (fun e => ?_) (fun e => ?_)
    · refine wp_p (j := J_Y_refer) 4 (pc' := 51) (lv' := [(5, .int 1), (0, .ref v0), (1, .ref v1), (2, .int v2), (3, .int v3), (4, .int v4)]) (st' := [.int (v2 + 1), .ref v1]) rfl ?_
      refine x_aB e rfl (.inl rfl) rfl (fun z9 e => ?_)
      refine wp_p (j := J_Y_refer) 1 (pc' := 54) (lv' := [(5, .int 1), (0, .ref v0), (1, .ref v1), (2, .int v2), (3, .int v3), (4, .int v4)]) (st' := [.int 47, .int z9]) rfl ?_
      refine x_ne e rfl (fun e => ?_) (fun e => ?_)
      · refine wp_p (j := J_Y_refer) 5 (pc' := 62) (lv' := [(5, .int 1), (0, .ref v0), (1, .ref v1), (2, .int v2), (3, .int v3), (4, .int v4)]) (st' := [.int v3, .int (v2 + 2), .ref v1]) rfl ?_
        refine x_cs1 (As := [.ref v1, .int (v2 + 2), .int v3]) (rest := []) Value.int e rfl rfl rfl rfl rfl (fun h => d_Y_nameEnd h ⟨rfl, rfl⟩) (fun z10 e => ?_)
        refine wp_p (j := J_Y_refer) 5 (pc' := 72) (lv' := [(6, .int z10), (5, .int 1), (0, .ref v0), (1, .ref v1), (2, .int v2), (3, .int v3), (4, .int v4)]) (st' := [.int (v2 + 2), .int z10]) rfl ?_
        refine x_ne e rfl (fun e => ?_) (fun e => ?_)
        · refine wp_p (j := J_Y_refer) 1 (pc' := 76) (lv' := [(6, .int z10), (5, .int 1), (0, .ref v0), (1, .ref v1), (2, .int v2), (3, .int v3), (4, .int v4)]) (st' := [.int 0]) rfl ?_
          have e := Option.some.inj e; subst e; exact wp_iret (ty := .boolean) rfl rfl (by decide) c
        · refine wp_p (j := J_Y_refer) 2 (pc' := 80) (lv' := [(7, .int v2), (6, .int z10), (5, .int 1), (0, .ref v0), (1, .ref v1), (2, .int v2), (3, .int v3), (4, .int v4)]) (st' := []) rfl ?_
          obtain ⟨g13, h12, e⟩ := bd e
          refine wp_lv (lv' := [(0, .ref v0), (1, .ref v1), (2, .int v2), (3, .int v3), (4, .int v4), (5, .int 1), (6, .int z10), (7, .int v2)]) rfl ⟨rfl, rfl, rfl, rfl, rfl, rfl, rfl, rfl, trivial⟩ ?_
          refine l_Y_refer_80 h12 ?_
          show wp (ab_ext L xs) J_Y_refer 102 [(0, .ref v0), (1, .ref v1), (2, .int v2), (3, .int v3), (4, .int v4), (5, .int 1), (6, .int z10)] [] (hp g13) Q
          refine wp_p (j := J_Y_refer) 2 (pc' := 105) (lv' := [(0, .ref v0), (1, .ref v1), (2, .int v2), (3, .int v3), (4, .int v4), (5, .int 1), (6, .int z10)]) (st' := [.int z10, .ref v0]) rfl ?_
          refine x_pI e rfl rfl fw_12_15 rfl (fun g14 e => ?_)
          refine wp_p (j := J_Y_refer) 3 (pc' := 111) (lv' := [(0, .ref v0), (1, .ref v1), (2, .int v2), (3, .int v3), (4, .int v4), (5, .int 1), (6, .int z10)]) (st' := [.int v3, .ref v1, .ref v0]) rfl ?_
          refine x_cv2 (As := [.ref v1, .int v3]) (rest := []) Value.int e rfl rfl rfl rfl rfl rfl (fun h => d_Y_segments h ⟨rfl, rfl⟩) (fun z15 g16 e => ?_)
          refine z_ne e rfl (fun e => ?_) (fun e => ?_)
          · refine wp_p (j := J_Y_refer) 1 (pc' := 118) (lv' := [(0, .ref v0), (1, .ref v1), (2, .int v2), (3, .int v3), (4, .int v4), (5, .int 1), (6, .int z10)]) (st' := [.int 0]) rfl ?_
            have e := Option.some.inj e; subst e; exact wp_iret (ty := .boolean) rfl rfl (by decide) c
          · refine wp_p (j := J_Y_refer) 2 (pc' := 122) (lv' := [(0, .ref v0), (1, .ref v1), (2, .int v2), (3, .int v3), (4, .int v4), (5, .int 1), (6, .int z10)]) (st' := [.ref v0, .int z10]) rfl ?_
            refine x_gI e rfl rfl fd_12_15 rfl (fun z17 e => ?_)
            refine x_ne e rfl (fun e => ?_) (fun e => ?_)
            · refine wp_p (j := J_Y_refer) 4 (pc' := 132) (lv' := [(0, .ref v0), (1, .ref v1), (2, .int v2), (3, .int v3), (4, .int v4), (5, .int 1), (6, .int z10)]) (st' := [.int 0, .int v2, .ref v1, .ref v0]) rfl ?_
              refine x_cv0 (As := [.ref v1, .int v2, .int 0]) (rest := []) e rfl rfl rfl rfl rfl rfl (fun h => d_Y_segment h ⟨rfl, rfl⟩) (fun g18 e => ?_)
              exact wp_lv (lv' := [(0, .ref v0), (1, .ref v1), (2, .int v2), (3, .int v3), (4, .int v4), (5, .int 1)]) rfl ⟨rfl, rfl, rfl, rfl, rfl, rfl, trivial⟩ (x_Y_refer_135 e c)
            · exact wp_lv (lv' := [(0, .ref v0), (1, .ref v1), (2, .int v2), (3, .int v3), (4, .int v4), (5, .int 1)]) rfl ⟨rfl, rfl, rfl, rfl, rfl, rfl, trivial⟩ (x_Y_refer_135 e c)
      · exact wp_lv (lv' := [(0, .ref v0), (1, .ref v1), (2, .int v2), (3, .int v3), (4, .int v4), (5, .int 1)]) rfl ⟨rfl, rfl, rfl, rfl, rfl, rfl, trivial⟩ (x_Y_refer_138 e c)
    · exact wp_lv (lv' := [(0, .ref v0), (1, .ref v1), (2, .int v2), (3, .int v3), (4, .int v4), (5, .int 1)]) rfl ⟨rfl, rfl, rfl, rfl, rfl, rfl, trivial⟩ (x_Y_refer_138 e c)
  · exact wp_lv (lv' := [(0, .ref v0), (1, .ref v1), (2, .int v2), (3, .int v3), (4, .int v4), (5, .int 1)]) rfl ⟨rfl, rfl, rfl, rfl, rfl, rfl, trivial⟩ (x_Y_refer_138 e c)
def cL_Y_copyRow_2 (L : Nat) (xs : Nat → Int32) (Q : Option Value → ab_H → Prop) (v0 : Nat) (v1 : Int32) (v2 : Int32) (out : (Int32 × g_S) ⊕ (g_S)) : Prop := match out with
  | .inl s => wp (ab_ext L xs) J_Y_copyRow 2 [(0, .ref v0), (1, .int v1), (2, .int v2), (3, .int s.1)] [] (hp s.2) Q
  | .inr s => wp (ab_ext L xs) J_Y_copyRow 39 [(0, .ref v0), (1, .int v1), (2, .int v2)] [] (hp s) Q
noncomputable def b_Y_copyRow_2 (v0 : Nat) (v1 : Int32) (v2 : Int32) (v3 : Int32) (g : g_S) : Option ((Int32 × g_S) ⊕ (g_S)) :=
  if v3 < 150 then
    (rQ g 112 v0 6).bind fun z1 =>
    (rQ g 112 v0 6).bind fun z2 =>
    (aI g 1 z2 ((v2 * 150) + v3)).bind fun z3 =>
    (sB g z1 ((v1 * 150) + v3) z3).bind fun g4 =>
    some (.inl (v3 + 1, g4))
  else
    some (.inr g)
set_option maxRecDepth 20000 in
theorem y_Y_copyRow_2 {L : Nat} {xs : Nat → Int32} {Q : Option Value → ab_H → Prop} {v0 : Nat} {v1 : Int32} {v2 : Int32} {v3 : Int32} {g : g_S} {out : (Int32 × g_S) ⊕ (g_S)} (e : b_Y_copyRow_2 v0 v1 v2 v3 g = some out) (c : cL_Y_copyRow_2 L xs Q v0 v1 v2 out) : wp (ab_ext L xs) J_Y_copyRow 2 [(0, .ref v0), (1, .int v1), (2, .int v2), (3, .int v3)] [] (hp g) Q := by
  unfold b_Y_copyRow_2 at e
  refine wp_p (j := J_Y_copyRow) 2 (pc' := 6) (lv' := [(0, .ref v0), (1, .int v1), (2, .int v2), (3, .int v3)]) (st' := [.int 150, .int v3]) rfl ?_
  refine x_ge e rfl (fun e => ?_) (fun e => ?_)
  · refine wp_p (j := J_Y_copyRow) 1 (pc' := 10) (lv' := [(0, .ref v0), (1, .int v1), (2, .int v2), (3, .int v3)]) (st' := [.ref v0]) rfl ?_
    refine x_gQ e rfl rfl fd_12_6 rfl (fun z1 e => ?_)
    refine wp_p (j := J_Y_copyRow) 6 (pc' := 21) (lv' := [(0, .ref v0), (1, .int v1), (2, .int v2), (3, .int v3)]) (st' := [.ref v0, .int ((v1 * 150) + v3), .ref z1]) rfl ?_
    refine x_gQ e rfl rfl fd_12_6 rfl (fun z2 e => ?_)
    refine wp_p (j := J_Y_copyRow) 5 (pc' := 31) (lv' := [(0, .ref v0), (1, .int v1), (2, .int v2), (3, .int v3)]) (st' := [.int ((v2 * 150) + v3), .ref z2, .int ((v1 * 150) + v3), .ref z1]) rfl ?_
    refine x_aB e rfl (.inl rfl) rfl (fun z3 e => ?_)
    refine x_sB e rfl rfl (fun g4 e => ?_)
    refine wp_p (j := J_Y_copyRow) 2 (pc' := 2) (lv' := [(3, .int (v3 + 1)), (0, .ref v0), (1, .int v1), (2, .int v2)]) (st' := []) rfl ?_
    have e := Option.some.inj e; subst e; exact wp_lv (lv' := [(0, .ref v0), (1, .int v1), (2, .int v2), (3, .int (v3 + 1))]) rfl ⟨rfl, rfl, rfl, rfl, trivial⟩ c
  · have e := Option.some.inj e; subst e; exact wp_lv (lv' := [(0, .ref v0), (1, .int v1), (2, .int v2)]) rfl ⟨rfl, rfl, rfl, trivial⟩ c
noncomputable def L_Y_copyRow_2 (v0 : Nat) (v1 : Int32) (v2 : Int32) (v3 : Int32) (g : g_S) : Option (g_S) := it (fun s : Int32 × g_S => b_Y_copyRow_2 v0 v1 v2 s.1 s.2) (v3, g)
theorem l_Y_copyRow_2 {L : Nat} {xs : Nat → Int32} {Q : Option Value → ab_H → Prop} {v0 : Nat} {v1 : Int32} {v2 : Int32} {v3 : Int32} {g : g_S} {r : g_S} (e : L_Y_copyRow_2 v0 v1 v2 v3 g = some r) (c : cL_Y_copyRow_2 L xs Q v0 v1 v2 (.inr r)) : wp (ab_ext L xs) J_Y_copyRow 2 [(0, .ref v0), (1, .int v1), (2, .int v2), (3, .int v3)] [] (hp g) Q :=
  it_wp (P := fun s : Int32 × g_S => wp (ab_ext L xs) J_Y_copyRow 2 [(0, .ref v0), (1, .int v1), (2, .int v2), (3, .int s.1)] [] (hp s.2) Q) (E := fun r => cL_Y_copyRow_2 L xs Q v0 v1 v2 (.inr r)) (fun s out e c => y_Y_copyRow_2 e (by cases out <;> exact c)) e c
theorem L_Y_copyRow_2_eq (v0 : Nat) (v1 : Int32) (v2 : Int32) (v3 : Int32) (g : g_S) : L_Y_copyRow_2 v0 v1 v2 v3 g = itc (b_Y_copyRow_2 v0 v1 v2 v3 g) (fun s => L_Y_copyRow_2 v0 v1 v2 s.1 s.2) := it_eq2 (fun s : Int32 × g_S => b_Y_copyRow_2 v0 v1 v2 s.1 s.2) (v3, g)
noncomputable def M_Y_copyRow (v0 : Nat) (v1 : Int32) (v2 : Int32) (g : g_S) : Option g_S :=
  (L_Y_copyRow_2 v0 v1 v2 0 g).bind <| fun g3 =>
  (rQ g3 112 v0 7).bind fun z4 =>
  (rQ g3 112 v0 7).bind fun z5 =>
  (aI g3 0 z5 v2).bind fun z6 =>
  (sI g3 z4 v1 z6).bind fun g7 =>
  (rQ g7 112 v0 8).bind fun z8 =>
  (rQ g7 112 v0 8).bind fun z9 =>
  (aI g7 0 z9 v2).bind fun z10 =>
  (sI g7 z8 v1 z10).bind fun g11 =>
  some g11
set_option maxRecDepth 20000 in
theorem d_Y_copyRow {L : Nat} {xs : Nat → Int32} {Q : Option Value → ab_H → Prop} {v0 : Nat} {v1 : Int32} {v2 : Int32} {g : g_S} {out : g_S} (e : M_Y_copyRow v0 v1 v2 g = some out) (c : Q none (hp out)) : mw (ab_ext L xs) J_Y_copyRow [.ref v0, .int v1, .int v2] (hp g) Q := by
  unfold M_Y_copyRow at e
  refine wp_p (j := J_Y_copyRow) 2 (pc' := 2) (lv' := [(3, .int 0), (0, .ref v0), (1, .int v1), (2, .int v2)]) (st' := []) rfl ?_
  obtain ⟨g3, h2, e⟩ := bd e
  refine wp_lv (lv' := [(0, .ref v0), (1, .int v1), (2, .int v2), (3, .int 0)]) rfl ⟨rfl, rfl, rfl, rfl, trivial⟩ ?_
  refine l_Y_copyRow_2 h2 ?_
  show wp (ab_ext L xs) J_Y_copyRow 39 [(0, .ref v0), (1, .int v1), (2, .int v2)] [] (hp g3) Q
  refine wp_p (j := J_Y_copyRow) 1 (pc' := 40) (lv' := [(0, .ref v0), (1, .int v1), (2, .int v2)]) (st' := [.ref v0]) rfl ?_
  refine x_gQ e rfl rfl fd_12_7 rfl (fun z4 e => ?_)
  refine wp_p (j := J_Y_copyRow) 2 (pc' := 45) (lv' := [(0, .ref v0), (1, .int v1), (2, .int v2)]) (st' := [.ref v0, .int v1, .ref z4]) rfl ?_
  refine x_gQ e rfl rfl fd_12_7 rfl (fun z5 e => ?_)
  refine wp_p (j := J_Y_copyRow) 1 (pc' := 49) (lv' := [(0, .ref v0), (1, .int v1), (2, .int v2)]) (st' := [.int v2, .ref z5, .int v1, .ref z4]) rfl ?_
  refine x_aI e rfl rfl (fun z6 e => ?_)
  refine x_sI e rfl rfl (fun g7 e => ?_)
  refine wp_p (j := J_Y_copyRow) 1 (pc' := 52) (lv' := [(0, .ref v0), (1, .int v1), (2, .int v2)]) (st' := [.ref v0]) rfl ?_
  refine x_gQ e rfl rfl fd_12_8 rfl (fun z8 e => ?_)
  refine wp_p (j := J_Y_copyRow) 2 (pc' := 57) (lv' := [(0, .ref v0), (1, .int v1), (2, .int v2)]) (st' := [.ref v0, .int v1, .ref z8]) rfl ?_
  refine x_gQ e rfl rfl fd_12_8 rfl (fun z9 e => ?_)
  refine wp_p (j := J_Y_copyRow) 1 (pc' := 61) (lv' := [(0, .ref v0), (1, .int v1), (2, .int v2)]) (st' := [.int v2, .ref z9, .int v1, .ref z8]) rfl ?_
  refine x_aI e rfl rfl (fun z10 e => ?_)
  refine x_sI e rfl rfl (fun g11 e => ?_)
  have e := Option.some.inj e; subst e; exact wp_vret rfl rfl c
def cL_Y_isWord_6 (L : Nat) (xs : Nat → Int32) (Q : Option Value → ab_H → Prop) (v0 : Nat) (v2 : Int32) (g : g_S) (out : (Int32 × Int64) ⊕ ((Unit) ⊕ (Unit))) : Prop := match out with
  | .inl s => wp (ab_ext L xs) J_Y_isWord 6 [(0, .ref v0), (2, .int v2), (5, .int s.1), (6, .long s.2)] [] (hp g) Q
  | .inr (.inl s) => wp (ab_ext L xs) J_Y_isWord 36 [] [] (hp g) Q
  | .inr (.inr s) => wp (ab_ext L xs) J_Y_isWord 50 [] [] (hp g) Q
noncomputable def b_Y_isWord_6 (v0 : Nat) (v2 : Int32) (v5 : Int32) (v6 : Int64) (g : g_S) : Option ((Int32 × Int64) ⊕ ((Unit) ⊕ (Unit))) :=
  if 0 < (lg_cmp v6 0) then
    if v5 < v2 then
      (aI g 1 v0 v5).bind fun z1 =>
      if z1 = (96 + (Int64.toInt32 (v6 &&& 31))) then
        some (.inl (v5 + 1, v6 >>> ((5 : Int32).toInt64 &&& 63)))
      else
        some (.inr (.inl ()))
    else
      some (.inr (.inl ()))
  else
    some (.inr (.inr ()))
set_option maxRecDepth 20000 in
theorem y_Y_isWord_6 {L : Nat} {xs : Nat → Int32} {Q : Option Value → ab_H → Prop} {v0 : Nat} {v2 : Int32} {v5 : Int32} {v6 : Int64} {g : g_S} {out : (Int32 × Int64) ⊕ ((Unit) ⊕ (Unit))} (e : b_Y_isWord_6 v0 v2 v5 v6 g = some out) (c : cL_Y_isWord_6 L xs Q v0 v2 g out) : wp (ab_ext L xs) J_Y_isWord 6 [(0, .ref v0), (2, .int v2), (5, .int v5), (6, .long v6)] [] (hp g) Q := by
  unfold b_Y_isWord_6 at e
  refine wp_p (j := J_Y_isWord) 3 (pc' := 10) (lv' := [(0, .ref v0), (2, .int v2), (5, .int v5), (6, .long v6)]) (st' := [.int (lg_cmp v6 0)]) rfl ?_
  refine z_le e rfl (fun e => ?_) (fun e => ?_)
  · refine wp_p (j := J_Y_isWord) 2 (pc' := 16) (lv' := [(0, .ref v0), (2, .int v2), (5, .int v5), (6, .long v6)]) (st' := [.int v2, .int v5]) rfl ?_
    refine x_ge e rfl (fun e => ?_) (fun e => ?_)
    · refine wp_p (j := J_Y_isWord) 2 (pc' := 22) (lv' := [(0, .ref v0), (2, .int v2), (5, .int v5), (6, .long v6)]) (st' := [.int v5, .ref v0]) rfl ?_
      refine x_aB e rfl (.inl rfl) rfl (fun z1 e => ?_)
      refine wp_p (j := J_Y_isWord) 2 (pc' := 27) (lv' := [(0, .ref v0), (2, .int v2), (5, .int v5), (6, .long v6)]) (st' := [.long v6, .int 96, .int z1]) rfl ?_
      refine x_l2 (xl := 31) rfl rfl rfl ?_
      refine wp_p (j := J_Y_isWord) 3 (pc' := 33) (lv' := [(0, .ref v0), (2, .int v2), (5, .int v5), (6, .long v6)]) (st' := [.int (96 + (Int64.toInt32 (v6 &&& 31))), .int z1]) rfl ?_
      refine x_eq e rfl (fun e => ?_) (fun e => ?_)
      · refine wp_p (j := J_Y_isWord) 6 (pc' := 6) (lv' := [(6, .long (v6 >>> ((5 : Int32).toInt64 &&& 63))), (5, .int (v5 + 1)), (0, .ref v0), (2, .int v2)]) (st' := []) rfl ?_
        have e := Option.some.inj e; subst e; exact wp_lv (lv' := [(0, .ref v0), (2, .int v2), (5, .int (v5 + 1)), (6, .long (v6 >>> ((5 : Int32).toInt64 &&& 63)))]) rfl ⟨rfl, rfl, rfl, rfl, trivial⟩ c
      · have e := Option.some.inj e; subst e; exact wp_lv (lv' := []) rfl trivial c
    · have e := Option.some.inj e; subst e; exact wp_lv (lv' := []) rfl trivial c
  · have e := Option.some.inj e; subst e; exact wp_lv (lv' := []) rfl trivial c
noncomputable def L_Y_isWord_6 (v0 : Nat) (v2 : Int32) (v5 : Int32) (v6 : Int64) (g : g_S) : Option ((Unit) ⊕ (Unit)) := it (fun s : Int32 × Int64 => b_Y_isWord_6 v0 v2 s.1 s.2 g) (v5, v6)
theorem l_Y_isWord_6 {L : Nat} {xs : Nat → Int32} {Q : Option Value → ab_H → Prop} {v0 : Nat} {v2 : Int32} {v5 : Int32} {v6 : Int64} {g : g_S} {r : (Unit) ⊕ (Unit)} (e : L_Y_isWord_6 v0 v2 v5 v6 g = some r) (c : cL_Y_isWord_6 L xs Q v0 v2 g (.inr r)) : wp (ab_ext L xs) J_Y_isWord 6 [(0, .ref v0), (2, .int v2), (5, .int v5), (6, .long v6)] [] (hp g) Q :=
  it_wp (P := fun s : Int32 × Int64 => wp (ab_ext L xs) J_Y_isWord 6 [(0, .ref v0), (2, .int v2), (5, .int s.1), (6, .long s.2)] [] (hp g) Q) (E := fun r => cL_Y_isWord_6 L xs Q v0 v2 g (.inr r)) (fun s out e c => y_Y_isWord_6 e (by cases out <;> exact c)) e c
theorem L_Y_isWord_6_eq (v0 : Nat) (v2 : Int32) (v5 : Int32) (v6 : Int64) (g : g_S) : L_Y_isWord_6 v0 v2 v5 v6 g = itc (b_Y_isWord_6 v0 v2 v5 v6 g) (fun s => L_Y_isWord_6 v0 v2 s.1 s.2 g) := it_eq2 (fun s : Int32 × Int64 => b_Y_isWord_6 v0 v2 s.1 s.2 g) (v5, v6)
noncomputable def M_Y_isWord (v0 : Nat) (v1 : Int32) (v2 : Int32) (v3 : Int64) (g : g_S) : Option Int32 :=
  (L_Y_isWord_6 v0 v2 v1 v3 g).bind <|
    us (fun _ =>
    some 0)
    (fun _ =>
    some 1)
set_option maxRecDepth 20000 in
theorem d_Y_isWord {L : Nat} {xs : Nat → Int32} {Q : Option Value → ab_H → Prop} {v0 : Nat} {v1 : Int32} {v2 : Int32} {v3 : Int64} {g : g_S} {out : Int32} (e : M_Y_isWord v0 v1 v2 v3 g = some out) (c : Q (some (.int out)) (hp g)) : mw (ab_ext L xs) J_Y_isWord [.ref v0, .int v1, .int v2, .long v3] (hp g) Q := by
  unfold M_Y_isWord at e
  refine wp_p (j := J_Y_isWord) 4 (pc' := 6) (lv' := [(6, .long v3), (5, .int v1), (0, .ref v0), (1, .int v1), (2, .int v2), (3, .long v3)]) (st' := []) rfl ?_
  obtain ⟨s1, h2, e⟩ := bd e
  refine wp_lv (lv' := [(0, .ref v0), (2, .int v2), (5, .int v1), (6, .long v3)]) rfl ⟨rfl, rfl, rfl, rfl, trivial⟩ ?_
  refine l_Y_isWord_6 h2 ?_
  rcases s1 with _ | _
  · replace e := (us_l e)
    show wp (ab_ext L xs) J_Y_isWord 36 [] [] (hp g) Q
    refine wp_p (j := J_Y_isWord) 1 (pc' := 37) (lv' := []) (st' := [.int 0]) rfl ?_
    have e := Option.some.inj e; subst e; exact wp_iret (ty := .boolean) rfl rfl (by decide) c
  · replace e := (us_r e)
    show wp (ab_ext L xs) J_Y_isWord 50 [] [] (hp g) Q
    refine wp_p (j := J_Y_isWord) 1 (pc' := 51) (lv' := []) (st' := [.int 1]) rfl ?_
    have e := Option.some.inj e; subst e; exact wp_iret (ty := .boolean) rfl rfl (by decide) c
def cL_Y_field_48 (L : Nat) (xs : Nat → Int32) (Q : Option Value → ab_H → Prop) (v0 : Nat) (v1 : Int32) (v2 : Int32) (g : g_S) (out : (Int32) ⊕ (Int32)) : Prop := match out with
  | .inl s => wp (ab_ext L xs) J_Y_field 48 [(0, .ref v0), (1, .int v1), (2, .int v2), (3, .int s)] [] (hp g) Q
  | .inr s => wp (ab_ext L xs) J_Y_field 70 [(0, .ref v0), (1, .int v1), (2, .int v2), (3, .int s)] [] (hp g) Q
noncomputable def b_Y_field_48 (v0 : Nat) (v1 : Int32) (v2 : Int32) (v3 : Int32) (g : g_S) : Option ((Int32) ⊕ (Int32)) :=
  if v3 < v2 then
    (rQ g 112 v0 2).bind fun z1 =>
    (aI g 1 z1 v3).bind fun z2 =>
    if z2 = 61 then
      some (.inr v3)
    else
      some (.inl (v3 + 1))
  else
    some (.inr v3)
set_option maxRecDepth 20000 in
theorem y_Y_field_48 {L : Nat} {xs : Nat → Int32} {Q : Option Value → ab_H → Prop} {v0 : Nat} {v1 : Int32} {v2 : Int32} {v3 : Int32} {g : g_S} {out : (Int32) ⊕ (Int32)} (e : b_Y_field_48 v0 v1 v2 v3 g = some out) (c : cL_Y_field_48 L xs Q v0 v1 v2 g out) : wp (ab_ext L xs) J_Y_field 48 [(0, .ref v0), (1, .int v1), (2, .int v2), (3, .int v3)] [] (hp g) Q := by
  unfold b_Y_field_48 at e
  refine wp_p (j := J_Y_field) 2 (pc' := 50) (lv' := [(0, .ref v0), (1, .int v1), (2, .int v2), (3, .int v3)]) (st' := [.int v2, .int v3]) rfl ?_
  refine x_ge e rfl (fun e => ?_) (fun e => ?_)
  · refine wp_p (j := J_Y_field) 1 (pc' := 54) (lv' := [(0, .ref v0), (1, .int v1), (2, .int v2), (3, .int v3)]) (st' := [.ref v0]) rfl ?_
    refine x_gQ e rfl rfl fd_12_2 rfl (fun z1 e => ?_)
    refine wp_p (j := J_Y_field) 1 (pc' := 58) (lv' := [(0, .ref v0), (1, .int v1), (2, .int v2), (3, .int v3)]) (st' := [.int v3, .ref z1]) rfl ?_
    refine x_aB e rfl (.inl rfl) rfl (fun z2 e => ?_)
    refine wp_p (j := J_Y_field) 1 (pc' := 61) (lv' := [(0, .ref v0), (1, .int v1), (2, .int v2), (3, .int v3)]) (st' := [.int 61, .int z2]) rfl ?_
    refine x_eq e rfl (fun e => ?_) (fun e => ?_)
    · have e := Option.some.inj e; subst e; exact wp_lv (lv' := [(0, .ref v0), (1, .int v1), (2, .int v2), (3, .int v3)]) rfl ⟨rfl, rfl, rfl, rfl, trivial⟩ c
    · refine wp_p (j := J_Y_field) 2 (pc' := 48) (lv' := [(3, .int (v3 + 1)), (0, .ref v0), (1, .int v1), (2, .int v2)]) (st' := []) rfl ?_
      have e := Option.some.inj e; subst e; exact wp_lv (lv' := [(0, .ref v0), (1, .int v1), (2, .int v2), (3, .int (v3 + 1))]) rfl ⟨rfl, rfl, rfl, rfl, trivial⟩ c
  · have e := Option.some.inj e; subst e; exact wp_lv (lv' := [(0, .ref v0), (1, .int v1), (2, .int v2), (3, .int v3)]) rfl ⟨rfl, rfl, rfl, rfl, trivial⟩ c
noncomputable def L_Y_field_48 (v0 : Nat) (v1 : Int32) (v2 : Int32) (v3 : Int32) (g : g_S) : Option (Int32) := it (fun s : Int32 => b_Y_field_48 v0 v1 v2 s g) (v3)
theorem l_Y_field_48 {L : Nat} {xs : Nat → Int32} {Q : Option Value → ab_H → Prop} {v0 : Nat} {v1 : Int32} {v2 : Int32} {v3 : Int32} {g : g_S} {r : Int32} (e : L_Y_field_48 v0 v1 v2 v3 g = some r) (c : cL_Y_field_48 L xs Q v0 v1 v2 g (.inr r)) : wp (ab_ext L xs) J_Y_field 48 [(0, .ref v0), (1, .int v1), (2, .int v2), (3, .int v3)] [] (hp g) Q :=
  it_wp (P := fun s : Int32 => wp (ab_ext L xs) J_Y_field 48 [(0, .ref v0), (1, .int v1), (2, .int v2), (3, .int s)] [] (hp g) Q) (E := fun r => cL_Y_field_48 L xs Q v0 v1 v2 g (.inr r)) (fun s out e c => y_Y_field_48 e (by cases out <;> exact c)) e c
theorem L_Y_field_48_eq (v0 : Nat) (v1 : Int32) (v2 : Int32) (v3 : Int32) (g : g_S) : L_Y_field_48 v0 v1 v2 v3 g = itc (b_Y_field_48 v0 v1 v2 v3 g) (fun s => L_Y_field_48 v0 v1 v2 s g) := it_eq2 (fun s : Int32 => b_Y_field_48 v0 v1 v2 s g) (v3)
def cL_Y_field_348 (L : Nat) (xs : Nat → Int32) (Q : Option Value → ab_H → Prop) (v0 : Nat) (v3 : Int32) (v5 : Int32) (out : (Int32 × g_S) ⊕ (g_S)) : Prop := match out with
  | .inl s => wp (ab_ext L xs) J_Y_field 348 [(0, .ref v0), (3, .int v3), (5, .int v5), (7, .int s.1)] [] (hp s.2) Q
  | .inr s => wp (ab_ext L xs) J_Y_field 381 [(0, .ref v0), (5, .int v5)] [] (hp s) Q
noncomputable def b_Y_field_348 (v0 : Nat) (v3 : Int32) (v5 : Int32) (v7 : Int32) (g : g_S) : Option ((Int32 × g_S) ⊕ (g_S)) :=
  (rI g 112 v0 39).bind fun z1 =>
  if v7 < z1 then
    (rQ g 112 v0 43).bind fun z2 =>
    (rQ g 112 v0 2).bind fun z3 =>
    (aI g 1 z3 ((v3 + 1) + v7)).bind fun z4 =>
    (sB g z2 v7 z4).bind fun g5 =>
    some (.inl (v7 + 1, g5))
  else
    some (.inr g)
set_option maxRecDepth 20000 in
theorem y_Y_field_348 {L : Nat} {xs : Nat → Int32} {Q : Option Value → ab_H → Prop} {v0 : Nat} {v3 : Int32} {v5 : Int32} {v7 : Int32} {g : g_S} {out : (Int32 × g_S) ⊕ (g_S)} (e : b_Y_field_348 v0 v3 v5 v7 g = some out) (c : cL_Y_field_348 L xs Q v0 v3 v5 out) : wp (ab_ext L xs) J_Y_field 348 [(0, .ref v0), (3, .int v3), (5, .int v5), (7, .int v7)] [] (hp g) Q := by
  unfold b_Y_field_348 at e
  refine wp_p (j := J_Y_field) 2 (pc' := 351) (lv' := [(0, .ref v0), (3, .int v3), (5, .int v5), (7, .int v7)]) (st' := [.ref v0, .int v7]) rfl ?_
  refine x_gI e rfl rfl fd_12_39 rfl (fun z1 e => ?_)
  refine x_ge e rfl (fun e => ?_) (fun e => ?_)
  · refine wp_p (j := J_Y_field) 1 (pc' := 358) (lv' := [(0, .ref v0), (3, .int v3), (5, .int v5), (7, .int v7)]) (st' := [.ref v0]) rfl ?_
    refine x_gQ e rfl rfl fd_12_43 rfl (fun z2 e => ?_)
    refine wp_p (j := J_Y_field) 2 (pc' := 364) (lv' := [(0, .ref v0), (3, .int v3), (5, .int v5), (7, .int v7)]) (st' := [.ref v0, .int v7, .ref z2]) rfl ?_
    refine x_gQ e rfl rfl fd_12_2 rfl (fun z3 e => ?_)
    refine wp_p (j := J_Y_field) 5 (pc' := 373) (lv' := [(0, .ref v0), (3, .int v3), (5, .int v5), (7, .int v7)]) (st' := [.int ((v3 + 1) + v7), .ref z3, .int v7, .ref z2]) rfl ?_
    refine x_aB e rfl (.inl rfl) rfl (fun z4 e => ?_)
    refine x_sB e rfl rfl (fun g5 e => ?_)
    refine wp_p (j := J_Y_field) 2 (pc' := 348) (lv' := [(7, .int (v7 + 1)), (0, .ref v0), (3, .int v3), (5, .int v5)]) (st' := []) rfl ?_
    have e := Option.some.inj e; subst e; exact wp_lv (lv' := [(0, .ref v0), (3, .int v3), (5, .int v5), (7, .int (v7 + 1))]) rfl ⟨rfl, rfl, rfl, rfl, trivial⟩ c
  · have e := Option.some.inj e; subst e; exact wp_lv (lv' := [(0, .ref v0), (5, .int v5)]) rfl ⟨rfl, rfl, trivial⟩ c
noncomputable def L_Y_field_348 (v0 : Nat) (v3 : Int32) (v5 : Int32) (v7 : Int32) (g : g_S) : Option (g_S) := it (fun s : Int32 × g_S => b_Y_field_348 v0 v3 v5 s.1 s.2) (v7, g)
theorem l_Y_field_348 {L : Nat} {xs : Nat → Int32} {Q : Option Value → ab_H → Prop} {v0 : Nat} {v3 : Int32} {v5 : Int32} {v7 : Int32} {g : g_S} {r : g_S} (e : L_Y_field_348 v0 v3 v5 v7 g = some r) (c : cL_Y_field_348 L xs Q v0 v3 v5 (.inr r)) : wp (ab_ext L xs) J_Y_field 348 [(0, .ref v0), (3, .int v3), (5, .int v5), (7, .int v7)] [] (hp g) Q :=
  it_wp (P := fun s : Int32 × g_S => wp (ab_ext L xs) J_Y_field 348 [(0, .ref v0), (3, .int v3), (5, .int v5), (7, .int s.1)] [] (hp s.2) Q) (E := fun r => cL_Y_field_348 L xs Q v0 v3 v5 (.inr r)) (fun s out e c => y_Y_field_348 e (by cases out <;> exact c)) e c
theorem L_Y_field_348_eq (v0 : Nat) (v3 : Int32) (v5 : Int32) (v7 : Int32) (g : g_S) : L_Y_field_348 v0 v3 v5 v7 g = itc (b_Y_field_348 v0 v3 v5 v7 g) (fun s => L_Y_field_348 v0 v3 v5 s.1 s.2) := it_eq2 (fun s : Int32 × g_S => b_Y_field_348 v0 v3 v5 s.1 s.2) (v7, g)
def cL_Y_field_384 (L : Nat) (xs : Nat → Int32) (Q : Option Value → ab_H → Prop) (v0 : Nat) (v5 : Int32) (out : (Int32 × g_S) ⊕ (g_S)) : Prop := match out with
  | .inl s => wp (ab_ext L xs) J_Y_field 384 [(0, .ref v0), (5, .int v5), (7, .int s.1)] [] (hp s.2) Q
  | .inr s => wp (ab_ext L xs) J_Y_field 421 [] [] (hp s) Q
noncomputable def b_Y_field_384 (v0 : Nat) (v5 : Int32) (v7 : Int32) (g : g_S) : Option ((Int32 × g_S) ⊕ (g_S)) :=
  (rI g 112 v0 40).bind fun z1 =>
  if v7 < z1 then
    (rQ g 112 v0 43).bind fun z2 =>
    (rQ g 112 v0 2).bind fun z3 =>
    (aI g 1 z3 ((v5 + 1) + v7)).bind fun z4 =>
    (sB g z2 (8 + v7) z4).bind fun g5 =>
    some (.inl (v7 + 1, g5))
  else
    some (.inr g)
set_option maxRecDepth 20000 in
theorem y_Y_field_384 {L : Nat} {xs : Nat → Int32} {Q : Option Value → ab_H → Prop} {v0 : Nat} {v5 : Int32} {v7 : Int32} {g : g_S} {out : (Int32 × g_S) ⊕ (g_S)} (e : b_Y_field_384 v0 v5 v7 g = some out) (c : cL_Y_field_384 L xs Q v0 v5 out) : wp (ab_ext L xs) J_Y_field 384 [(0, .ref v0), (5, .int v5), (7, .int v7)] [] (hp g) Q := by
  unfold b_Y_field_384 at e
  refine wp_p (j := J_Y_field) 2 (pc' := 387) (lv' := [(0, .ref v0), (5, .int v5), (7, .int v7)]) (st' := [.ref v0, .int v7]) rfl ?_
  refine x_gI e rfl rfl fd_12_40 rfl (fun z1 e => ?_)
  refine x_ge e rfl (fun e => ?_) (fun e => ?_)
  · refine wp_p (j := J_Y_field) 1 (pc' := 394) (lv' := [(0, .ref v0), (5, .int v5), (7, .int v7)]) (st' := [.ref v0]) rfl ?_
    refine x_gQ e rfl rfl fd_12_43 rfl (fun z2 e => ?_)
    refine wp_p (j := J_Y_field) 4 (pc' := 403) (lv' := [(0, .ref v0), (5, .int v5), (7, .int v7)]) (st' := [.ref v0, .int (8 + v7), .ref z2]) rfl ?_
    refine x_gQ e rfl rfl fd_12_2 rfl (fun z3 e => ?_)
    refine wp_p (j := J_Y_field) 5 (pc' := 413) (lv' := [(0, .ref v0), (5, .int v5), (7, .int v7)]) (st' := [.int ((v5 + 1) + v7), .ref z3, .int (8 + v7), .ref z2]) rfl ?_
    refine x_aB e rfl (.inl rfl) rfl (fun z4 e => ?_)
    refine x_sB e rfl rfl (fun g5 e => ?_)
    refine wp_p (j := J_Y_field) 2 (pc' := 384) (lv' := [(7, .int (v7 + 1)), (0, .ref v0), (5, .int v5)]) (st' := []) rfl ?_
    have e := Option.some.inj e; subst e; exact wp_lv (lv' := [(0, .ref v0), (5, .int v5), (7, .int (v7 + 1))]) rfl ⟨rfl, rfl, rfl, trivial⟩ c
  · have e := Option.some.inj e; subst e; exact wp_lv (lv' := []) rfl trivial c
noncomputable def L_Y_field_384 (v0 : Nat) (v5 : Int32) (v7 : Int32) (g : g_S) : Option (g_S) := it (fun s : Int32 × g_S => b_Y_field_384 v0 v5 s.1 s.2) (v7, g)
theorem l_Y_field_384 {L : Nat} {xs : Nat → Int32} {Q : Option Value → ab_H → Prop} {v0 : Nat} {v5 : Int32} {v7 : Int32} {g : g_S} {r : g_S} (e : L_Y_field_384 v0 v5 v7 g = some r) (c : cL_Y_field_384 L xs Q v0 v5 (.inr r)) : wp (ab_ext L xs) J_Y_field 384 [(0, .ref v0), (5, .int v5), (7, .int v7)] [] (hp g) Q :=
  it_wp (P := fun s : Int32 × g_S => wp (ab_ext L xs) J_Y_field 384 [(0, .ref v0), (5, .int v5), (7, .int s.1)] [] (hp s.2) Q) (E := fun r => cL_Y_field_384 L xs Q v0 v5 (.inr r)) (fun s out e c => y_Y_field_384 e (by cases out <;> exact c)) e c
theorem L_Y_field_384_eq (v0 : Nat) (v5 : Int32) (v7 : Int32) (g : g_S) : L_Y_field_384 v0 v5 v7 g = itc (b_Y_field_384 v0 v5 v7 g) (fun s => L_Y_field_384 v0 v5 s.1 s.2) := it_eq2 (fun s : Int32 × g_S => b_Y_field_384 v0 v5 s.1 s.2) (v7, g)
def cL_Y_field_136 (L : Nat) (xs : Nat → Int32) (Q : Option Value → ab_H → Prop) (v0 : Nat) (v2 : Int32) (g : g_S) (out : (Int32 × Int32 × Int32) ⊕ (Int32 × Int32)) : Prop := match out with
  | .inl s => wp (ab_ext L xs) J_Y_field 136 [(0, .ref v0), (2, .int v2), (5, .int s.1), (6, .int s.2.1), (7, .int s.2.2)] [] (hp g) Q
  | .inr s => wp (ab_ext L xs) J_Y_field 183 [(0, .ref v0), (5, .int s.1), (6, .int s.2)] [] (hp g) Q
noncomputable def b_Y_field_136 (v0 : Nat) (v2 : Int32) (v5 : Int32) (v6 : Int32) (v7 : Int32) (g : g_S) : Option ((Int32 × Int32 × Int32) ⊕ (Int32 × Int32)) :=
  if v7 < v2 then
    if v6 = 0 then
      some (.inr (v5, v6))
    else
      (rQ g 112 v0 2).bind fun z1 =>
      (aI g 1 z1 v7).bind fun z2 =>
      (M_Y_isDigit z2 g).bind fun z3 =>
      (rQ g 112 v0 2).bind fun z4 =>
      (aI g 1 z4 v7).bind fun z5 =>
      some (.inl (((10 * v5) + z5) - 48, z3, v7 + 1))
  else
    some (.inr (v5, v6))
set_option maxRecDepth 20000 in
theorem y_Y_field_136 {L : Nat} {xs : Nat → Int32} {Q : Option Value → ab_H → Prop} {v0 : Nat} {v2 : Int32} {v5 : Int32} {v6 : Int32} {v7 : Int32} {g : g_S} {out : (Int32 × Int32 × Int32) ⊕ (Int32 × Int32)} (e : b_Y_field_136 v0 v2 v5 v6 v7 g = some out) (c : cL_Y_field_136 L xs Q v0 v2 g out) : wp (ab_ext L xs) J_Y_field 136 [(0, .ref v0), (2, .int v2), (5, .int v5), (6, .int v6), (7, .int v7)] [] (hp g) Q := by
  unfold b_Y_field_136 at e
  refine wp_p (j := J_Y_field) 2 (pc' := 139) (lv' := [(0, .ref v0), (2, .int v2), (5, .int v5), (6, .int v6), (7, .int v7)]) (st' := [.int v2, .int v7]) rfl ?_
  refine x_ge e rfl (fun e => ?_) (fun e => ?_)
  · refine wp_p (j := J_Y_field) 1 (pc' := 144) (lv' := [(0, .ref v0), (2, .int v2), (5, .int v5), (6, .int v6), (7, .int v7)]) (st' := [.int v6]) rfl ?_
    refine z_eq e rfl (fun e => ?_) (fun e => ?_)
    · have e := Option.some.inj e; subst e; exact wp_lv (lv' := [(0, .ref v0), (5, .int v5), (6, .int v6)]) rfl ⟨rfl, rfl, rfl, trivial⟩ c
    · refine wp_p (j := J_Y_field) 1 (pc' := 148) (lv' := [(0, .ref v0), (2, .int v2), (5, .int v5), (6, .int v6), (7, .int v7)]) (st' := [.ref v0]) rfl ?_
      refine x_gQ e rfl rfl fd_12_2 rfl (fun z1 e => ?_)
      refine wp_p (j := J_Y_field) 1 (pc' := 153) (lv' := [(0, .ref v0), (2, .int v2), (5, .int v5), (6, .int v6), (7, .int v7)]) (st' := [.int v7, .ref z1]) rfl ?_
      refine x_aB e rfl (.inl rfl) rfl (fun z2 e => ?_)
      refine x_cs1 (As := [.int z2]) (rest := []) Value.int e rfl rfl rfl rfl rfl (fun h => d_Y_isDigit h ⟨rfl, rfl⟩) (fun z3 e => ?_)
      refine wp_p (j := J_Y_field) 5 (pc' := 165) (lv' := [(6, .int z3), (0, .ref v0), (2, .int v2), (5, .int v5), (7, .int v7)]) (st' := [.ref v0, .int (10 * v5)]) rfl ?_
      refine x_gQ e rfl rfl fd_12_2 rfl (fun z4 e => ?_)
      refine wp_p (j := J_Y_field) 1 (pc' := 170) (lv' := [(6, .int z3), (0, .ref v0), (2, .int v2), (5, .int v5), (7, .int v7)]) (st' := [.int v7, .ref z4, .int (10 * v5)]) rfl ?_
      refine x_aB e rfl (.inl rfl) rfl (fun z5 e => ?_)
      refine wp_p (j := J_Y_field) 6 (pc' := 136) (lv' := [(7, .int (v7 + 1)), (5, .int (((10 * v5) + z5) - 48)), (6, .int z3), (0, .ref v0), (2, .int v2)]) (st' := []) rfl ?_
      have e := Option.some.inj e; subst e; exact wp_lv (lv' := [(0, .ref v0), (2, .int v2), (5, .int (((10 * v5) + z5) - 48)), (6, .int z3), (7, .int (v7 + 1))]) rfl ⟨rfl, rfl, rfl, rfl, rfl, trivial⟩ c
  · have e := Option.some.inj e; subst e; exact wp_lv (lv' := [(0, .ref v0), (5, .int v5), (6, .int v6)]) rfl ⟨rfl, rfl, rfl, trivial⟩ c
noncomputable def L_Y_field_136 (v0 : Nat) (v2 : Int32) (v5 : Int32) (v6 : Int32) (v7 : Int32) (g : g_S) : Option (Int32 × Int32) := it (fun s : Int32 × Int32 × Int32 => b_Y_field_136 v0 v2 s.1 s.2.1 s.2.2 g) (v5, v6, v7)
theorem l_Y_field_136 {L : Nat} {xs : Nat → Int32} {Q : Option Value → ab_H → Prop} {v0 : Nat} {v2 : Int32} {v5 : Int32} {v6 : Int32} {v7 : Int32} {g : g_S} {r : Int32 × Int32} (e : L_Y_field_136 v0 v2 v5 v6 v7 g = some r) (c : cL_Y_field_136 L xs Q v0 v2 g (.inr r)) : wp (ab_ext L xs) J_Y_field 136 [(0, .ref v0), (2, .int v2), (5, .int v5), (6, .int v6), (7, .int v7)] [] (hp g) Q :=
  it_wp (P := fun s : Int32 × Int32 × Int32 => wp (ab_ext L xs) J_Y_field 136 [(0, .ref v0), (2, .int v2), (5, .int s.1), (6, .int s.2.1), (7, .int s.2.2)] [] (hp g) Q) (E := fun r => cL_Y_field_136 L xs Q v0 v2 g (.inr r)) (fun s out e c => y_Y_field_136 e (by cases out <;> exact c)) e c
theorem L_Y_field_136_eq (v0 : Nat) (v2 : Int32) (v5 : Int32) (v6 : Int32) (v7 : Int32) (g : g_S) : L_Y_field_136 v0 v2 v5 v6 v7 g = itc (b_Y_field_136 v0 v2 v5 v6 v7 g) (fun s => L_Y_field_136 v0 v2 s.1 s.2.1 s.2.2 g) := it_eq2 (fun s : Int32 × Int32 × Int32 => b_Y_field_136 v0 v2 s.1 s.2.1 s.2.2 g) (v5, v6, v7)
noncomputable def k_Y_field_423 (v0 : Nat) (v1 : Int32) (v2 : Int32) (v3 : Int32) (v4 : Int32) (g : g_S) : Option (Int32 × g_S) :=
  if v4 = 2 then
    (rQ g 112 v0 2).bind fun z1 =>
    (M_Y_isWord z1 v1 v3 500 g).bind fun z2 =>
    if z2 = 0 then
      some (0, g)
    else
      (rI g 112 v0 41).bind fun z3 =>
      if 0 < z3 then
        some (0, g)
      else
        (rQ g 112 v0 2).bind fun z4 =>
        c2 (vc g 112 v0 (M_Y_refer v0 z4 (v3 + 1) v2 3 g)) fun z5 g6 =>
        if z5 = 0 then
          some (0, g6)
        else
          (wI g6 112 v0 41 1).bind fun g7 =>
          (vc g7 112 v0 (M_Y_copyRow v0 4 0 g7)).bind fun g8 =>
          (rQ g8 112 v0 8).bind fun z9 =>
          (sI g8 z9 4 0).bind fun g10 =>
          some (1, g10)
  else
    some (0, g)
set_option maxRecDepth 20000 in
theorem x_Y_field_423 {L : Nat} {xs : Nat → Int32} {Q : Option Value → ab_H → Prop} {v0 : Nat} {v1 : Int32} {v2 : Int32} {v3 : Int32} {v4 : Int32} {g : g_S} {out : Int32 × g_S} (e : k_Y_field_423 v0 v1 v2 v3 v4 g = some out) (c : Q (some (.int out.1)) (hp out.2)) : wp (ab_ext L xs) J_Y_field 423 [(0, .ref v0), (1, .int v1), (2, .int v2), (3, .int v3), (4, .int v4)] [] (hp g) Q := by
  unfold k_Y_field_423 at e
  refine wp_p (j := J_Y_field) 2 (pc' := 426) (lv' := [(0, .ref v0), (1, .int v1), (2, .int v2), (3, .int v3), (4, .int v4)]) (st' := [.int 2, .int v4]) rfl ?_
  refine x_ne e rfl (fun e => ?_) (fun e => ?_)
  · refine wp_p (j := J_Y_field) 1 (pc' := 430) (lv' := [(0, .ref v0), (1, .int v1), (2, .int v2), (3, .int v3), (4, .int v4)]) (st' := [.ref v0]) rfl ?_
    refine x_gQ e rfl rfl fd_12_2 rfl (fun z1 e => ?_)
    refine wp_p (j := J_Y_field) 2 (pc' := 435) (lv' := [(0, .ref v0), (1, .int v1), (2, .int v2), (3, .int v3), (4, .int v4)]) (st' := [.int v3, .int v1, .ref z1]) rfl ?_
    refine x_l2 (xl := 500) rfl rfl rfl ?_
    refine x_cs1 (As := [.ref z1, .int v1, .int v3, .long 500]) (rest := []) Value.int e rfl rfl rfl rfl rfl (fun h => d_Y_isWord h ⟨rfl, rfl⟩) (fun z2 e => ?_)
    refine z_eq e rfl (fun e => ?_) (fun e => ?_)
    · refine wp_p (j := J_Y_field) 1 (pc' := 490) (lv' := [(0, .ref v0), (1, .int v1), (2, .int v2), (3, .int v3), (4, .int v4)]) (st' := [.int 0]) rfl ?_
      have e := Option.some.inj e; subst e; exact wp_iret (ty := .boolean) rfl rfl (by decide) c
    · refine wp_p (j := J_Y_field) 1 (pc' := 445) (lv' := [(0, .ref v0), (1, .int v1), (2, .int v2), (3, .int v3), (4, .int v4)]) (st' := [.ref v0]) rfl ?_
      refine x_gI e rfl rfl fd_12_41 rfl (fun z3 e => ?_)
      refine z_gt e rfl (fun e => ?_) (fun e => ?_)
      · refine wp_p (j := J_Y_field) 1 (pc' := 468) (lv' := [(0, .ref v0), (1, .int v1), (2, .int v2), (3, .int v3), (4, .int v4)]) (st' := [.int 0]) rfl ?_
        have e := Option.some.inj e; subst e; exact wp_iret (ty := .boolean) rfl rfl (by decide) c
      · refine wp_p (j := J_Y_field) 2 (pc' := 453) (lv' := [(0, .ref v0), (1, .int v1), (2, .int v2), (3, .int v3), (4, .int v4)]) (st' := [.ref v0, .ref v0]) rfl ?_
        refine x_gQ e rfl rfl fd_12_2 rfl (fun z4 e => ?_)
        refine wp_p (j := J_Y_field) 5 (pc' := 461) (lv' := [(0, .ref v0), (1, .int v1), (2, .int v2), (3, .int v3), (4, .int v4)]) (st' := [.int 3, .int v2, .int (v3 + 1), .ref z4, .ref v0]) rfl ?_
        refine x_cv2 (As := [.ref z4, .int (v3 + 1), .int v2, .int 3]) (rest := []) Value.int e rfl rfl rfl rfl rfl rfl (fun h => d_Y_refer h ⟨rfl, rfl⟩) (fun z5 g6 e => ?_)
        refine z_ne e rfl (fun e => ?_) (fun e => ?_)
        · refine wp_p (j := J_Y_field) 1 (pc' := 468) (lv' := [(0, .ref v0), (1, .int v1), (2, .int v2), (3, .int v3), (4, .int v4)]) (st' := [.int 0]) rfl ?_
          have e := Option.some.inj e; subst e; exact wp_iret (ty := .boolean) rfl rfl (by decide) c
        · refine wp_p (j := J_Y_field) 2 (pc' := 471) (lv' := [(0, .ref v0), (1, .int v1), (2, .int v2), (3, .int v3), (4, .int v4)]) (st' := [.int 1, .ref v0]) rfl ?_
          refine x_pI e rfl rfl fw_12_41 rfl (fun g7 e => ?_)
          refine wp_p (j := J_Y_field) 3 (pc' := 477) (lv' := [(0, .ref v0), (1, .int v1), (2, .int v2), (3, .int v3), (4, .int v4)]) (st' := [.int 0, .int 4, .ref v0]) rfl ?_
          refine x_cv0 (As := [.int 4, .int 0]) (rest := []) e rfl rfl rfl rfl rfl rfl (fun h => d_Y_copyRow h ⟨rfl, rfl⟩) (fun g8 e => ?_)
          refine wp_p (j := J_Y_field) 1 (pc' := 481) (lv' := [(0, .ref v0), (1, .int v1), (2, .int v2), (3, .int v3), (4, .int v4)]) (st' := [.ref v0]) rfl ?_
          refine x_gQ e rfl rfl fd_12_8 rfl (fun z9 e => ?_)
          refine wp_p (j := J_Y_field) 2 (pc' := 486) (lv' := [(0, .ref v0), (1, .int v1), (2, .int v2), (3, .int v3), (4, .int v4)]) (st' := [.int 0, .int 4, .ref z9]) rfl ?_
          refine x_sI e rfl rfl (fun g10 e => ?_)
          refine wp_p (j := J_Y_field) 1 (pc' := 488) (lv' := [(0, .ref v0), (1, .int v1), (2, .int v2), (3, .int v3), (4, .int v4)]) (st' := [.int 1]) rfl ?_
          have e := Option.some.inj e; subst e; exact wp_iret (ty := .boolean) rfl rfl (by decide) c
  · refine wp_p (j := J_Y_field) 1 (pc' := 490) (lv' := [(0, .ref v0), (1, .int v1), (2, .int v2), (3, .int v3), (4, .int v4)]) (st' := [.int 0]) rfl ?_
    have e := Option.some.inj e; subst e; exact wp_iret (ty := .boolean) rfl rfl (by decide) c
noncomputable def k_Y_field_223 (v0 : Nat) (v1 : Int32) (v2 : Int32) (v3 : Int32) (v4 : Int32) (g : g_S) : Option (Int32 × g_S) :=
  if v4 = 6 then
    (rQ g 112 v0 2).bind fun z1 =>
    (M_Y_isWord z1 v1 v3 177585635 g).bind fun z2 =>
    if z2 = 0 then
      k_Y_field_423 v0 v1 v2 v3 v4 g
    else
      (rQ g 112 v0 2).bind fun z3 =>
      (M_Y_nameEnd z3 (v3 + 1) v2 g).bind fun z4 =>
      if z4 = (v3 + 1) then
        some (0, g)
      else
        if z4 < v2 then
          (rQ g 112 v0 2).bind fun z5 =>
          (aI g 1 z5 z4).bind fun z6 =>
          if z6 = 58 then
            (rI g 112 v0 39).bind fun z7 =>
            if 0 < z7 then
              some (0, g)
            else
              (rQ g 112 v0 2).bind fun z8 =>
              (M_Y_nameEnd z8 (z4 + 1) v2 g).bind fun z9 =>
              if z9 = (z4 + 1) then
                some (0, g)
              else
                if z9 = v2 then
                  (wI g 112 v0 39 ((z4 - v3) - 1)).bind fun g10 =>
                  (wI g10 112 v0 40 ((z9 - z4) - 1)).bind fun g11 =>
                  (L_Y_field_348 v0 v3 z4 0 g11).bind <| fun g14 =>
                  (L_Y_field_384 v0 z4 0 g14).bind <| fun g17 =>
                  some (1, g17)
                else
                  some (0, g)
          else
            some (0, g)
        else
          some (0, g)
  else
    k_Y_field_423 v0 v1 v2 v3 v4 g
set_option maxRecDepth 20000 in
theorem x_Y_field_223 {L : Nat} {xs : Nat → Int32} {Q : Option Value → ab_H → Prop} {v0 : Nat} {v1 : Int32} {v2 : Int32} {v3 : Int32} {v4 : Int32} {g : g_S} {out : Int32 × g_S} (e : k_Y_field_223 v0 v1 v2 v3 v4 g = some out) (c : Q (some (.int out.1)) (hp out.2)) : wp (ab_ext L xs) J_Y_field 223 [(0, .ref v0), (1, .int v1), (2, .int v2), (3, .int v3), (4, .int v4)] [] (hp g) Q := by
  unfold k_Y_field_223 at e
  refine wp_p (j := J_Y_field) 2 (pc' := 227) (lv' := [(0, .ref v0), (1, .int v1), (2, .int v2), (3, .int v3), (4, .int v4)]) (st' := [.int 6, .int v4]) rfl ?_
  refine x_ne e rfl (fun e => ?_) (fun e => ?_)
  · refine wp_p (j := J_Y_field) 1 (pc' := 231) (lv' := [(0, .ref v0), (1, .int v1), (2, .int v2), (3, .int v3), (4, .int v4)]) (st' := [.ref v0]) rfl ?_
    refine x_gQ e rfl rfl fd_12_2 rfl (fun z1 e => ?_)
    refine wp_p (j := J_Y_field) 2 (pc' := 236) (lv' := [(0, .ref v0), (1, .int v1), (2, .int v2), (3, .int v3), (4, .int v4)]) (st' := [.int v3, .int v1, .ref z1]) rfl ?_
    refine x_l2 (xl := 177585635) rfl rfl rfl ?_
    refine x_cs1 (As := [.ref z1, .int v1, .int v3, .long 177585635]) (rest := []) Value.int e rfl rfl rfl rfl rfl (fun h => d_Y_isWord h ⟨rfl, rfl⟩) (fun z2 e => ?_)
    refine z_eq e rfl (fun e => ?_) (fun e => ?_)
    · exact wp_lv (lv' := [(0, .ref v0), (1, .int v1), (2, .int v2), (3, .int v3), (4, .int v4)]) rfl ⟨rfl, rfl, rfl, rfl, rfl, trivial⟩ (x_Y_field_423 e c)
    · refine wp_p (j := J_Y_field) 1 (pc' := 246) (lv' := [(0, .ref v0), (1, .int v1), (2, .int v2), (3, .int v3), (4, .int v4)]) (st' := [.ref v0]) rfl ?_
      refine x_gQ e rfl rfl fd_12_2 rfl (fun z3 e => ?_)
      refine wp_p (j := J_Y_field) 4 (pc' := 253) (lv' := [(0, .ref v0), (1, .int v1), (2, .int v2), (3, .int v3), (4, .int v4)]) (st' := [.int v2, .int (v3 + 1), .ref z3]) rfl ?_
      refine x_cs1 (As := [.ref z3, .int (v3 + 1), .int v2]) (rest := []) Value.int e rfl rfl rfl rfl rfl (fun h => d_Y_nameEnd h ⟨rfl, rfl⟩) (fun z4 e => ?_)
      refine wp_p (j := J_Y_field) 5 (pc' := 263) (lv' := [(5, .int z4), (0, .ref v0), (1, .int v1), (2, .int v2), (3, .int v3), (4, .int v4)]) (st' := [.int (v3 + 1), .int z4]) rfl ?_
      refine x_eq e rfl (fun e => ?_) (fun e => ?_)
      · refine wp_p (j := J_Y_field) 1 (pc' := 292) (lv' := [(5, .int z4), (0, .ref v0), (1, .int v1), (2, .int v2), (3, .int v3), (4, .int v4)]) (st' := [.int 0]) rfl ?_
        have e := Option.some.inj e; subst e; exact wp_iret (ty := .boolean) rfl rfl (by decide) c
      · refine wp_p (j := J_Y_field) 2 (pc' := 269) (lv' := [(5, .int z4), (0, .ref v0), (1, .int v1), (2, .int v2), (3, .int v3), (4, .int v4)]) (st' := [.int v2, .int z4]) rfl ?_
        refine x_ge e rfl (fun e => ?_) (fun e => ?_)
        · refine wp_p (j := J_Y_field) 1 (pc' := 273) (lv' := [(5, .int z4), (0, .ref v0), (1, .int v1), (2, .int v2), (3, .int v3), (4, .int v4)]) (st' := [.ref v0]) rfl ?_
          refine x_gQ e rfl rfl fd_12_2 rfl (fun z5 e => ?_)
          refine wp_p (j := J_Y_field) 1 (pc' := 278) (lv' := [(5, .int z4), (0, .ref v0), (1, .int v1), (2, .int v2), (3, .int v3), (4, .int v4)]) (st' := [.int z4, .ref z5]) rfl ?_
          refine x_aB e rfl (.inl rfl) rfl (fun z6 e => ?_)
          refine wp_p (j := J_Y_field) 1 (pc' := 281) (lv' := [(5, .int z4), (0, .ref v0), (1, .int v1), (2, .int v2), (3, .int v3), (4, .int v4)]) (st' := [.int 58, .int z6]) rfl ?_
          refine x_ne e rfl (fun e => ?_) (fun e => ?_)
          · refine wp_p (j := J_Y_field) 1 (pc' := 285) (lv' := [(5, .int z4), (0, .ref v0), (1, .int v1), (2, .int v2), (3, .int v3), (4, .int v4)]) (st' := [.ref v0]) rfl ?_
            refine x_gI e rfl rfl fd_12_39 rfl (fun z7 e => ?_)
            refine z_le e rfl (fun e => ?_) (fun e => ?_)
            · refine wp_p (j := J_Y_field) 1 (pc' := 292) (lv' := [(5, .int z4), (0, .ref v0), (1, .int v1), (2, .int v2), (3, .int v3), (4, .int v4)]) (st' := [.int 0]) rfl ?_
              have e := Option.some.inj e; subst e; exact wp_iret (ty := .boolean) rfl rfl (by decide) c
            · refine wp_p (j := J_Y_field) 1 (pc' := 294) (lv' := [(5, .int z4), (0, .ref v0), (1, .int v1), (2, .int v2), (3, .int v3), (4, .int v4)]) (st' := [.ref v0]) rfl ?_
              refine x_gQ e rfl rfl fd_12_2 rfl (fun z8 e => ?_)
              refine wp_p (j := J_Y_field) 4 (pc' := 302) (lv' := [(5, .int z4), (0, .ref v0), (1, .int v1), (2, .int v2), (3, .int v3), (4, .int v4)]) (st' := [.int v2, .int (z4 + 1), .ref z8]) rfl ?_
              refine x_cs1 (As := [.ref z8, .int (z4 + 1), .int v2]) (rest := []) Value.int e rfl rfl rfl rfl rfl (fun h => d_Y_nameEnd h ⟨rfl, rfl⟩) (fun z9 e => ?_)
              refine wp_p (j := J_Y_field) 5 (pc' := 313) (lv' := [(6, .int z9), (5, .int z4), (0, .ref v0), (1, .int v1), (2, .int v2), (3, .int v3), (4, .int v4)]) (st' := [.int (z4 + 1), .int z9]) rfl ?_
              refine x_eq e rfl (fun e => ?_) (fun e => ?_)
              · refine wp_p (j := J_Y_field) 1 (pc' := 323) (lv' := [(6, .int z9), (5, .int z4), (0, .ref v0), (1, .int v1), (2, .int v2), (3, .int v3), (4, .int v4)]) (st' := [.int 0]) rfl ?_
                have e := Option.some.inj e; subst e; exact wp_iret (ty := .boolean) rfl rfl (by decide) c
              · refine wp_p (j := J_Y_field) 2 (pc' := 319) (lv' := [(6, .int z9), (5, .int z4), (0, .ref v0), (1, .int v1), (2, .int v2), (3, .int v3), (4, .int v4)]) (st' := [.int v2, .int z9]) rfl ?_
                refine x_eq e rfl (fun e => ?_) (fun e => ?_)
                · refine wp_p (j := J_Y_field) 6 (pc' := 331) (lv' := [(6, .int z9), (5, .int z4), (0, .ref v0), (1, .int v1), (2, .int v2), (3, .int v3), (4, .int v4)]) (st' := [.int ((z4 - v3) - 1), .ref v0]) rfl ?_
                  refine x_pI e rfl rfl fw_12_39 rfl (fun g10 e => ?_)
                  refine wp_p (j := J_Y_field) 6 (pc' := 342) (lv' := [(6, .int z9), (5, .int z4), (0, .ref v0), (1, .int v1), (2, .int v2), (3, .int v3), (4, .int v4)]) (st' := [.int ((z9 - z4) - 1), .ref v0]) rfl ?_
                  refine x_pI e rfl rfl fw_12_40 rfl (fun g11 e => ?_)
                  refine wp_p (j := J_Y_field) 2 (pc' := 348) (lv' := [(7, .int 0), (6, .int z9), (5, .int z4), (0, .ref v0), (1, .int v1), (2, .int v2), (3, .int v3), (4, .int v4)]) (st' := []) rfl ?_
                  obtain ⟨g14, h13, e⟩ := bd e
                  refine wp_lv (lv' := [(0, .ref v0), (3, .int v3), (5, .int z4), (7, .int 0)]) rfl ⟨rfl, rfl, rfl, rfl, trivial⟩ ?_
                  refine l_Y_field_348 h13 ?_
                  show wp (ab_ext L xs) J_Y_field 381 [(0, .ref v0), (5, .int z4)] [] (hp g14) Q
                  refine wp_p (j := J_Y_field) 2 (pc' := 384) (lv' := [(7, .int 0), (0, .ref v0), (5, .int z4)]) (st' := []) rfl ?_
                  obtain ⟨g17, h16, e⟩ := bd e
                  refine wp_lv (lv' := [(0, .ref v0), (5, .int z4), (7, .int 0)]) rfl ⟨rfl, rfl, rfl, trivial⟩ ?_
                  refine l_Y_field_384 h16 ?_
                  show wp (ab_ext L xs) J_Y_field 421 [] [] (hp g17) Q
                  refine wp_p (j := J_Y_field) 1 (pc' := 422) (lv' := []) (st' := [.int 1]) rfl ?_
                  have e := Option.some.inj e; subst e; exact wp_iret (ty := .boolean) rfl rfl (by decide) c
                · refine wp_p (j := J_Y_field) 1 (pc' := 323) (lv' := [(6, .int z9), (5, .int z4), (0, .ref v0), (1, .int v1), (2, .int v2), (3, .int v3), (4, .int v4)]) (st' := [.int 0]) rfl ?_
                  have e := Option.some.inj e; subst e; exact wp_iret (ty := .boolean) rfl rfl (by decide) c
          · refine wp_p (j := J_Y_field) 1 (pc' := 292) (lv' := [(5, .int z4), (0, .ref v0), (1, .int v1), (2, .int v2), (3, .int v3), (4, .int v4)]) (st' := [.int 0]) rfl ?_
            have e := Option.some.inj e; subst e; exact wp_iret (ty := .boolean) rfl rfl (by decide) c
        · refine wp_p (j := J_Y_field) 1 (pc' := 292) (lv' := [(5, .int z4), (0, .ref v0), (1, .int v1), (2, .int v2), (3, .int v3), (4, .int v4)]) (st' := [.int 0]) rfl ?_
          have e := Option.some.inj e; subst e; exact wp_iret (ty := .boolean) rfl rfl (by decide) c
  · exact wp_lv (lv' := [(0, .ref v0), (1, .int v1), (2, .int v2), (3, .int v3), (4, .int v4)]) rfl ⟨rfl, rfl, rfl, rfl, rfl, trivial⟩ (x_Y_field_423 e c)
noncomputable def k_Y_field_217 (v6 : Int32) (w0 : Int32) (w1 : Nat) (g : g_S) : Option (Int32 × g_S) :=
  (wI g 112 w1 38 w0).bind fun g1 =>
  (tz v6).bind fun z2 =>
  some (z2, g1)
set_option maxRecDepth 20000 in
theorem x_Y_field_217 {L : Nat} {xs : Nat → Int32} {Q : Option Value → ab_H → Prop} {v6 : Int32} {w0 : Int32} {w1 : Nat} {g : g_S} {out : Int32 × g_S} (e : k_Y_field_217 v6 w0 w1 g = some out) (c : Q (some (.int out.1)) (hp out.2)) : wp (ab_ext L xs) J_Y_field 217 [(6, .int v6)] [.int w0, .ref w1] (hp g) Q := by
  unfold k_Y_field_217 at e
  refine x_pI e rfl rfl fw_12_38 rfl (fun g1 e => ?_)
  refine wp_p (j := J_Y_field) 1 (pc' := 222) (lv' := [(6, .int v6)]) (st' := [.int v6]) rfl ?_
  obtain ⟨h3, e⟩ := tz_ok e
  have e := Option.some.inj e; subst e; exact wp_iret (ty := .boolean) rfl rfl h3 c
noncomputable def k_Y_field_200 (v0 : Nat) (v5 : Int32) (w0 : Int32) (g : g_S) : Option (Int32 × g_S) :=
  if w0 = 0 then
    (rI g 112 v0 38).bind fun z1 =>
    k_Y_field_217 w0 z1 v0 g
  else
    k_Y_field_217 w0 v5 v0 g
set_option maxRecDepth 20000 in
theorem x_Y_field_200 {L : Nat} {xs : Nat → Int32} {Q : Option Value → ab_H → Prop} {v0 : Nat} {v5 : Int32} {w0 : Int32} {g : g_S} {out : Int32 × g_S} (e : k_Y_field_200 v0 v5 w0 g = some out) (c : Q (some (.int out.1)) (hp out.2)) : wp (ab_ext L xs) J_Y_field 200 [(0, .ref v0), (5, .int v5)] [.int w0] (hp g) Q := by
  unfold k_Y_field_200 at e
  refine wp_p (j := J_Y_field) 3 (pc' := 205) (lv' := [(6, .int w0), (0, .ref v0), (5, .int v5)]) (st' := [.int w0, .ref v0]) rfl ?_
  refine z_eq e rfl (fun e => ?_) (fun e => ?_)
  · refine wp_p (j := J_Y_field) 1 (pc' := 214) (lv' := [(6, .int w0), (0, .ref v0), (5, .int v5)]) (st' := [.ref v0, .ref v0]) rfl ?_
    refine x_gI e rfl rfl fd_12_38 rfl (fun z1 e => ?_)
    exact wp_lv (lv' := [(6, .int w0)]) rfl ⟨rfl, trivial⟩ (x_Y_field_217 e c)
  · refine wp_p (j := J_Y_field) 2 (pc' := 217) (lv' := [(6, .int w0), (0, .ref v0), (5, .int v5)]) (st' := [.int v5, .ref v0]) rfl ?_
    exact wp_lv (lv' := [(6, .int w0)]) rfl ⟨rfl, trivial⟩ (x_Y_field_217 e c)
noncomputable def k_Y_field_199 (v0 : Nat) (v5 : Int32) (g : g_S) : Option (Int32 × g_S) :=
  k_Y_field_200 v0 v5 0 g
set_option maxRecDepth 20000 in
theorem x_Y_field_199 {L : Nat} {xs : Nat → Int32} {Q : Option Value → ab_H → Prop} {v0 : Nat} {v5 : Int32} {g : g_S} {out : Int32 × g_S} (e : k_Y_field_199 v0 v5 g = some out) (c : Q (some (.int out.1)) (hp out.2)) : wp (ab_ext L xs) J_Y_field 199 [(0, .ref v0), (5, .int v5)] [] (hp g) Q := by
  unfold k_Y_field_199 at e
  refine wp_p (j := J_Y_field) 1 (pc' := 200) (lv' := [(0, .ref v0), (5, .int v5)]) (st' := [.int 0]) rfl ?_
  exact wp_lv (lv' := [(0, .ref v0), (5, .int v5)]) rfl ⟨rfl, rfl, trivial⟩ (x_Y_field_200 e c)
noncomputable def k_Y_field_183 (v0 : Nat) (v5 : Int32) (v6 : Int32) (g : g_S) : Option (Int32 × g_S) :=
  if v6 = 0 then
    k_Y_field_199 v0 v5 g
  else
    (rI g 112 v0 38).bind fun z1 =>
    if z1 < 0 then
      k_Y_field_200 v0 v5 1 g
    else
      k_Y_field_199 v0 v5 g
set_option maxRecDepth 20000 in
theorem x_Y_field_183 {L : Nat} {xs : Nat → Int32} {Q : Option Value → ab_H → Prop} {v0 : Nat} {v5 : Int32} {v6 : Int32} {g : g_S} {out : Int32 × g_S} (e : k_Y_field_183 v0 v5 v6 g = some out) (c : Q (some (.int out.1)) (hp out.2)) : wp (ab_ext L xs) J_Y_field 183 [(0, .ref v0), (5, .int v5), (6, .int v6)] [] (hp g) Q := by
  unfold k_Y_field_183 at e
  refine wp_p (j := J_Y_field) 1 (pc' := 185) (lv' := [(0, .ref v0), (5, .int v5), (6, .int v6)]) (st' := [.int v6]) rfl ?_
  refine z_eq e rfl (fun e => ?_) (fun e => ?_)
  · exact wp_lv (lv' := [(0, .ref v0), (5, .int v5)]) rfl ⟨rfl, rfl, trivial⟩ (x_Y_field_199 e c)
  · refine wp_p (j := J_Y_field) 1 (pc' := 189) (lv' := [(0, .ref v0), (5, .int v5), (6, .int v6)]) (st' := [.ref v0]) rfl ?_
    refine x_gI e rfl rfl fd_12_38 rfl (fun z1 e => ?_)
    refine z_ge e rfl (fun e => ?_) (fun e => ?_)
    · refine wp_p (j := J_Y_field) 2 (pc' := 200) (lv' := [(0, .ref v0), (5, .int v5), (6, .int v6)]) (st' := [.int 1]) rfl ?_
      exact wp_lv (lv' := [(0, .ref v0), (5, .int v5)]) rfl ⟨rfl, rfl, trivial⟩ (x_Y_field_200 e c)
    · exact wp_lv (lv' := [(0, .ref v0), (5, .int v5)]) rfl ⟨rfl, rfl, trivial⟩ (x_Y_field_199 e c)
noncomputable def k_Y_field_129 (v0 : Nat) (v2 : Int32) (v3 : Int32) (v5 : Int32) (w0 : Int32) (g : g_S) : Option (Int32 × g_S) :=
  (L_Y_field_136 v0 v2 v5 w0 (v3 + 1) g).bind <| u2 fun z3 z4 =>
  k_Y_field_183 v0 z3 z4 g
set_option maxRecDepth 20000 in
theorem x_Y_field_129 {L : Nat} {xs : Nat → Int32} {Q : Option Value → ab_H → Prop} {v0 : Nat} {v2 : Int32} {v3 : Int32} {v5 : Int32} {w0 : Int32} {g : g_S} {out : Int32 × g_S} (e : k_Y_field_129 v0 v2 v3 v5 w0 g = some out) (c : Q (some (.int out.1)) (hp out.2)) : wp (ab_ext L xs) J_Y_field 129 [(0, .ref v0), (2, .int v2), (3, .int v3), (5, .int v5)] [.int w0] (hp g) Q := by
  unfold k_Y_field_129 at e
  refine wp_p (j := J_Y_field) 5 (pc' := 136) (lv' := [(7, .int (v3 + 1)), (6, .int w0), (0, .ref v0), (2, .int v2), (3, .int v3), (5, .int v5)]) (st' := []) rfl ?_
  obtain ⟨s1, h2, e⟩ := bd e
  refine wp_lv (lv' := [(0, .ref v0), (2, .int v2), (5, .int v5), (6, .int w0), (7, .int (v3 + 1))]) rfl ⟨rfl, rfl, rfl, rfl, rfl, trivial⟩ ?_
  refine l_Y_field_136 h2 ?_
  obtain ⟨z3, z4⟩ := s1
  replace e := u2_e e
  show wp (ab_ext L xs) J_Y_field 183 [(0, .ref v0), (5, .int z3), (6, .int z4)] [] (hp g) Q
  exact wp_lv (lv' := [(0, .ref v0), (5, .int z3), (6, .int z4)]) rfl ⟨rfl, rfl, rfl, trivial⟩ (x_Y_field_183 e c)
noncomputable def k_Y_field_128 (v0 : Nat) (v2 : Int32) (v3 : Int32) (v5 : Int32) (g : g_S) : Option (Int32 × g_S) :=
  k_Y_field_129 v0 v2 v3 v5 0 g
set_option maxRecDepth 20000 in
theorem x_Y_field_128 {L : Nat} {xs : Nat → Int32} {Q : Option Value → ab_H → Prop} {v0 : Nat} {v2 : Int32} {v3 : Int32} {v5 : Int32} {g : g_S} {out : Int32 × g_S} (e : k_Y_field_128 v0 v2 v3 v5 g = some out) (c : Q (some (.int out.1)) (hp out.2)) : wp (ab_ext L xs) J_Y_field 128 [(0, .ref v0), (2, .int v2), (3, .int v3), (5, .int v5)] [] (hp g) Q := by
  unfold k_Y_field_128 at e
  refine wp_p (j := J_Y_field) 1 (pc' := 129) (lv' := [(0, .ref v0), (2, .int v2), (3, .int v3), (5, .int v5)]) (st' := [.int 0]) rfl ?_
  exact wp_lv (lv' := [(0, .ref v0), (2, .int v2), (3, .int v3), (5, .int v5)]) rfl ⟨rfl, rfl, rfl, rfl, trivial⟩ (x_Y_field_129 e c)
noncomputable def k_Y_field_70 (v0 : Nat) (v1 : Int32) (v2 : Int32) (v3 : Int32) (g : g_S) : Option (Int32 × g_S) :=
  if v3 = v2 then
    some (0, g)
  else
    if (v3 - v1) = 3 then
      (rQ g 112 v0 2).bind fun z1 =>
      (M_Y_isWord z1 v1 v3 5345 g).bind fun z2 =>
      if z2 = 0 then
        k_Y_field_223 v0 v1 v2 v3 (v3 - v1) g
      else
        if ((v2 - v3) - 1) < 1 then
          k_Y_field_128 v0 v2 v3 0 g
        else
          if 4 < ((v2 - v3) - 1) then
            k_Y_field_128 v0 v2 v3 0 g
          else
            k_Y_field_129 v0 v2 v3 0 1 g
    else
      k_Y_field_223 v0 v1 v2 v3 (v3 - v1) g
set_option maxRecDepth 20000 in
theorem x_Y_field_70 {L : Nat} {xs : Nat → Int32} {Q : Option Value → ab_H → Prop} {v0 : Nat} {v1 : Int32} {v2 : Int32} {v3 : Int32} {g : g_S} {out : Int32 × g_S} (e : k_Y_field_70 v0 v1 v2 v3 g = some out) (c : Q (some (.int out.1)) (hp out.2)) : wp (ab_ext L xs) J_Y_field 70 [(0, .ref v0), (1, .int v1), (2, .int v2), (3, .int v3)] [] (hp g) Q := by
  unfold k_Y_field_70 at e
  refine wp_p (j := J_Y_field) 2 (pc' := 72) (lv' := [(0, .ref v0), (1, .int v1), (2, .int v2), (3, .int v3)]) (st' := [.int v2, .int v3]) rfl ?_
  refine x_ne e rfl (fun e => ?_) (fun e => ?_)
  · refine wp_p (j := J_Y_field) 1 (pc' := 76) (lv' := [(0, .ref v0), (1, .int v1), (2, .int v2), (3, .int v3)]) (st' := [.int 0]) rfl ?_
    have e := Option.some.inj e; subst e; exact wp_iret (ty := .boolean) rfl rfl (by decide) c
  · refine wp_p (j := J_Y_field) 6 (pc' := 85) (lv' := [(4, .int (v3 - v1)), (0, .ref v0), (1, .int v1), (2, .int v2), (3, .int v3)]) (st' := [.int 3, .int (v3 - v1)]) rfl ?_
    refine x_ne e rfl (fun e => ?_) (fun e => ?_)
    · refine wp_p (j := J_Y_field) 1 (pc' := 89) (lv' := [(4, .int (v3 - v1)), (0, .ref v0), (1, .int v1), (2, .int v2), (3, .int v3)]) (st' := [.ref v0]) rfl ?_
      refine x_gQ e rfl rfl fd_12_2 rfl (fun z1 e => ?_)
      refine wp_p (j := J_Y_field) 2 (pc' := 94) (lv' := [(4, .int (v3 - v1)), (0, .ref v0), (1, .int v1), (2, .int v2), (3, .int v3)]) (st' := [.int v3, .int v1, .ref z1]) rfl ?_
      refine x_l2 (xl := 5345) rfl rfl rfl ?_
      refine x_cs1 (As := [.ref z1, .int v1, .int v3, .long 5345]) (rest := []) Value.int e rfl rfl rfl rfl rfl (fun h => d_Y_isWord h ⟨rfl, rfl⟩) (fun z2 e => ?_)
      refine z_eq e rfl (fun e => ?_) (fun e => ?_)
      · exact wp_lv (lv' := [(0, .ref v0), (1, .int v1), (2, .int v2), (3, .int v3), (4, .int (v3 - v1))]) rfl ⟨rfl, rfl, rfl, rfl, rfl, trivial⟩ (x_Y_field_223 e c)
      · refine wp_p (j := J_Y_field) 8 (pc' := 112) (lv' := [(5, .int 0), (4, .int (v3 - v1)), (0, .ref v0), (1, .int v1), (2, .int v2), (3, .int v3)]) (st' := [.int 1, .int ((v2 - v3) - 1)]) rfl ?_
        refine x_lt e rfl (fun e => ?_) (fun e => ?_)
        · exact wp_lv (lv' := [(0, .ref v0), (2, .int v2), (3, .int v3), (5, .int 0)]) rfl ⟨rfl, rfl, rfl, rfl, trivial⟩ (x_Y_field_128 e c)
        · refine wp_p (j := J_Y_field) 6 (pc' := 121) (lv' := [(5, .int 0), (4, .int (v3 - v1)), (0, .ref v0), (1, .int v1), (2, .int v2), (3, .int v3)]) (st' := [.int 4, .int ((v2 - v3) - 1)]) rfl ?_
          refine x_gt e rfl (fun e => ?_) (fun e => ?_)
          · exact wp_lv (lv' := [(0, .ref v0), (2, .int v2), (3, .int v3), (5, .int 0)]) rfl ⟨rfl, rfl, rfl, rfl, trivial⟩ (x_Y_field_128 e c)
          · refine wp_p (j := J_Y_field) 2 (pc' := 129) (lv' := [(5, .int 0), (4, .int (v3 - v1)), (0, .ref v0), (1, .int v1), (2, .int v2), (3, .int v3)]) (st' := [.int 1]) rfl ?_
            exact wp_lv (lv' := [(0, .ref v0), (2, .int v2), (3, .int v3), (5, .int 0)]) rfl ⟨rfl, rfl, rfl, rfl, trivial⟩ (x_Y_field_129 e c)
    · exact wp_lv (lv' := [(0, .ref v0), (1, .int v1), (2, .int v2), (3, .int v3), (4, .int (v3 - v1))]) rfl ⟨rfl, rfl, rfl, rfl, rfl, trivial⟩ (x_Y_field_223 e c)
noncomputable def k_Y_field_46 (v0 : Nat) (v1 : Int32) (v2 : Int32) (g : g_S) : Option (Int32 × g_S) :=
  (L_Y_field_48 v0 v1 v2 v1 g).bind <| fun z3 =>
  k_Y_field_70 v0 v1 v2 z3 g
set_option maxRecDepth 20000 in
theorem x_Y_field_46 {L : Nat} {xs : Nat → Int32} {Q : Option Value → ab_H → Prop} {v0 : Nat} {v1 : Int32} {v2 : Int32} {g : g_S} {out : Int32 × g_S} (e : k_Y_field_46 v0 v1 v2 g = some out) (c : Q (some (.int out.1)) (hp out.2)) : wp (ab_ext L xs) J_Y_field 46 [(0, .ref v0), (1, .int v1), (2, .int v2)] [] (hp g) Q := by
  unfold k_Y_field_46 at e
  refine wp_p (j := J_Y_field) 2 (pc' := 48) (lv' := [(3, .int v1), (0, .ref v0), (1, .int v1), (2, .int v2)]) (st' := []) rfl ?_
  obtain ⟨z3, h2, e⟩ := bd e
  refine wp_lv (lv' := [(0, .ref v0), (1, .int v1), (2, .int v2), (3, .int v1)]) rfl ⟨rfl, rfl, rfl, rfl, trivial⟩ ?_
  refine l_Y_field_48 h2 ?_
  show wp (ab_ext L xs) J_Y_field 70 [(0, .ref v0), (1, .int v1), (2, .int v2), (3, .int z3)] [] (hp g) Q
  exact wp_lv (lv' := [(0, .ref v0), (1, .int v1), (2, .int v2), (3, .int z3)]) rfl ⟨rfl, rfl, rfl, rfl, trivial⟩ (x_Y_field_70 e c)
noncomputable def M_Y_field (v0 : Nat) (v1 : Int32) (v2 : Int32) (g : g_S) : Option (Int32 × g_S) :=
  if (v2 - v1) = 4 then
    (rQ g 112 v0 2).bind fun z1 =>
    (M_Y_isWord z1 v1 v2 464399 g).bind fun z2 =>
    if z2 = 0 then
      k_Y_field_46 v0 v1 v2 g
    else
      (rI g 112 v0 42).bind fun z3 =>
      (wI g 112 v0 42 (z3 + 1)).bind fun g4 =>
      (rI g4 112 v0 42).bind fun z5 =>
      if z5 = 1 then
        some (1, g4)
      else
        some (0, g4)
  else
    k_Y_field_46 v0 v1 v2 g
set_option maxRecDepth 20000 in
theorem d_Y_field {L : Nat} {xs : Nat → Int32} {Q : Option Value → ab_H → Prop} {v0 : Nat} {v1 : Int32} {v2 : Int32} {g : g_S} {out : Int32 × g_S} (e : M_Y_field v0 v1 v2 g = some out) (c : Q (some (.int out.1)) (hp out.2)) : mw (ab_ext L xs) J_Y_field [.ref v0, .int v1, .int v2] (hp g) Q := by
  unfold M_Y_field at e
  refine wp_p (j := J_Y_field) 4 (pc' := 4) (lv' := [(0, .ref v0), (1, .int v1), (2, .int v2)]) (st' := [.int 4, .int (v2 - v1)]) rfl ?_
  refine x_ne e rfl (fun e => ?_) (fun e => ?_)
  · refine wp_p (j := J_Y_field) 1 (pc' := 8) (lv' := [(0, .ref v0), (1, .int v1), (2, .int v2)]) (st' := [.ref v0]) rfl ?_
    refine x_gQ e rfl rfl fd_12_2 rfl (fun z1 e => ?_)
    refine wp_p (j := J_Y_field) 2 (pc' := 13) (lv' := [(0, .ref v0), (1, .int v1), (2, .int v2)]) (st' := [.int v2, .int v1, .ref z1]) rfl ?_
    refine x_l2 (xl := 464399) rfl rfl rfl ?_
    refine x_cs1 (As := [.ref z1, .int v1, .int v2, .long 464399]) (rest := []) Value.int e rfl rfl rfl rfl rfl (fun h => d_Y_isWord h ⟨rfl, rfl⟩) (fun z2 e => ?_)
    refine z_eq e rfl (fun e => ?_) (fun e => ?_)
    · exact wp_lv (lv' := [(0, .ref v0), (1, .int v1), (2, .int v2)]) rfl ⟨rfl, rfl, rfl, trivial⟩ (x_Y_field_46 e c)
    · refine wp_p (j := J_Y_field) 2 (pc' := 24) (lv' := [(0, .ref v0), (1, .int v1), (2, .int v2)]) (st' := [.ref v0, .ref v0]) rfl ?_
      refine x_gI e rfl rfl fd_12_42 rfl (fun z3 e => ?_)
      refine wp_p (j := J_Y_field) 2 (pc' := 29) (lv' := [(0, .ref v0), (1, .int v1), (2, .int v2)]) (st' := [.int (z3 + 1), .ref v0]) rfl ?_
      refine x_pI e rfl rfl fw_12_42 rfl (fun g4 e => ?_)
      refine wp_p (j := J_Y_field) 1 (pc' := 33) (lv' := [(0, .ref v0), (1, .int v1), (2, .int v2)]) (st' := [.ref v0]) rfl ?_
      refine x_gI e rfl rfl fd_12_42 rfl (fun z5 e => ?_)
      refine wp_p (j := J_Y_field) 1 (pc' := 37) (lv' := [(0, .ref v0), (1, .int v1), (2, .int v2)]) (st' := [.int 1, .int z5]) rfl ?_
      refine x_ne e rfl (fun e => ?_) (fun e => ?_)
      · refine wp_p (j := J_Y_field) 2 (pc' := 45) (lv' := [(0, .ref v0), (1, .int v1), (2, .int v2)]) (st' := [.int 1]) rfl ?_
        have e := Option.some.inj e; subst e; exact wp_iret (ty := .boolean) rfl rfl (by decide) c
      · refine wp_p (j := J_Y_field) 1 (pc' := 45) (lv' := [(0, .ref v0), (1, .int v1), (2, .int v2)]) (st' := [.int 0]) rfl ?_
        have e := Option.some.inj e; subst e; exact wp_iret (ty := .boolean) rfl rfl (by decide) c
  · exact wp_lv (lv' := [(0, .ref v0), (1, .int v1), (2, .int v2)]) rfl ⟨rfl, rfl, rfl, trivial⟩ (x_Y_field_46 e c)
def cL_Y_same_3 (L : Nat) (xs : Nat → Int32) (Q : Option Value → ab_H → Prop) (v0 : Nat) (v1 : Int32) (v2 : Nat) (v3 : Int32) (v4 : Int32) (g : g_S) (out : (Int32) ⊕ ((Unit) ⊕ (Unit))) : Prop := match out with
  | .inl s => wp (ab_ext L xs) J_Y_same 3 [(0, .ref v0), (1, .int v1), (2, .ref v2), (3, .int v3), (4, .int v4), (5, .int s)] [] (hp g) Q
  | .inr (.inl s) => wp (ab_ext L xs) J_Y_same 25 [] [] (hp g) Q
  | .inr (.inr s) => wp (ab_ext L xs) J_Y_same 33 [] [] (hp g) Q
noncomputable def b_Y_same_3 (v0 : Nat) (v1 : Int32) (v2 : Nat) (v3 : Int32) (v4 : Int32) (v5 : Int32) (g : g_S) : Option ((Int32) ⊕ ((Unit) ⊕ (Unit))) :=
  if v5 < v4 then
    (aI g 1 v0 (v1 + v5)).bind fun z1 =>
    (aI g 1 v2 (v3 + v5)).bind fun z2 =>
    if z1 = z2 then
      some (.inl (v5 + 1))
    else
      some (.inr (.inl ()))
  else
    some (.inr (.inr ()))
set_option maxRecDepth 20000 in
theorem y_Y_same_3 {L : Nat} {xs : Nat → Int32} {Q : Option Value → ab_H → Prop} {v0 : Nat} {v1 : Int32} {v2 : Nat} {v3 : Int32} {v4 : Int32} {v5 : Int32} {g : g_S} {out : (Int32) ⊕ ((Unit) ⊕ (Unit))} (e : b_Y_same_3 v0 v1 v2 v3 v4 v5 g = some out) (c : cL_Y_same_3 L xs Q v0 v1 v2 v3 v4 g out) : wp (ab_ext L xs) J_Y_same 3 [(0, .ref v0), (1, .int v1), (2, .ref v2), (3, .int v3), (4, .int v4), (5, .int v5)] [] (hp g) Q := by
  unfold b_Y_same_3 at e
  refine wp_p (j := J_Y_same) 2 (pc' := 7) (lv' := [(0, .ref v0), (1, .int v1), (2, .ref v2), (3, .int v3), (4, .int v4), (5, .int v5)]) (st' := [.int v4, .int v5]) rfl ?_
  refine x_ge e rfl (fun e => ?_) (fun e => ?_)
  · refine wp_p (j := J_Y_same) 4 (pc' := 15) (lv' := [(0, .ref v0), (1, .int v1), (2, .ref v2), (3, .int v3), (4, .int v4), (5, .int v5)]) (st' := [.int (v1 + v5), .ref v0]) rfl ?_
    refine x_aB e rfl (.inl rfl) rfl (fun z1 e => ?_)
    refine wp_p (j := J_Y_same) 4 (pc' := 21) (lv' := [(0, .ref v0), (1, .int v1), (2, .ref v2), (3, .int v3), (4, .int v4), (5, .int v5)]) (st' := [.int (v3 + v5), .ref v2, .int z1]) rfl ?_
    refine x_aB e rfl (.inl rfl) rfl (fun z2 e => ?_)
    refine x_eq e rfl (fun e => ?_) (fun e => ?_)
    · refine wp_p (j := J_Y_same) 2 (pc' := 3) (lv' := [(5, .int (v5 + 1)), (0, .ref v0), (1, .int v1), (2, .ref v2), (3, .int v3), (4, .int v4)]) (st' := []) rfl ?_
      have e := Option.some.inj e; subst e; exact wp_lv (lv' := [(0, .ref v0), (1, .int v1), (2, .ref v2), (3, .int v3), (4, .int v4), (5, .int (v5 + 1))]) rfl ⟨rfl, rfl, rfl, rfl, rfl, rfl, trivial⟩ c
    · have e := Option.some.inj e; subst e; exact wp_lv (lv' := []) rfl trivial c
  · have e := Option.some.inj e; subst e; exact wp_lv (lv' := []) rfl trivial c
noncomputable def L_Y_same_3 (v0 : Nat) (v1 : Int32) (v2 : Nat) (v3 : Int32) (v4 : Int32) (v5 : Int32) (g : g_S) : Option ((Unit) ⊕ (Unit)) := it (fun s : Int32 => b_Y_same_3 v0 v1 v2 v3 v4 s g) (v5)
theorem l_Y_same_3 {L : Nat} {xs : Nat → Int32} {Q : Option Value → ab_H → Prop} {v0 : Nat} {v1 : Int32} {v2 : Nat} {v3 : Int32} {v4 : Int32} {v5 : Int32} {g : g_S} {r : (Unit) ⊕ (Unit)} (e : L_Y_same_3 v0 v1 v2 v3 v4 v5 g = some r) (c : cL_Y_same_3 L xs Q v0 v1 v2 v3 v4 g (.inr r)) : wp (ab_ext L xs) J_Y_same 3 [(0, .ref v0), (1, .int v1), (2, .ref v2), (3, .int v3), (4, .int v4), (5, .int v5)] [] (hp g) Q :=
  it_wp (P := fun s : Int32 => wp (ab_ext L xs) J_Y_same 3 [(0, .ref v0), (1, .int v1), (2, .ref v2), (3, .int v3), (4, .int v4), (5, .int s)] [] (hp g) Q) (E := fun r => cL_Y_same_3 L xs Q v0 v1 v2 v3 v4 g (.inr r)) (fun s out e c => y_Y_same_3 e (by cases out <;> exact c)) e c
theorem L_Y_same_3_eq (v0 : Nat) (v1 : Int32) (v2 : Nat) (v3 : Int32) (v4 : Int32) (v5 : Int32) (g : g_S) : L_Y_same_3 v0 v1 v2 v3 v4 v5 g = itc (b_Y_same_3 v0 v1 v2 v3 v4 v5 g) (fun s => L_Y_same_3 v0 v1 v2 v3 v4 s g) := it_eq2 (fun s : Int32 => b_Y_same_3 v0 v1 v2 v3 v4 s g) (v5)
noncomputable def M_Y_same (v0 : Nat) (v1 : Int32) (v2 : Nat) (v3 : Int32) (v4 : Int32) (g : g_S) : Option Int32 :=
  (L_Y_same_3 v0 v1 v2 v3 v4 0 g).bind <|
    us (fun _ =>
    some 0)
    (fun _ =>
    some 1)
set_option maxRecDepth 20000 in
theorem d_Y_same {L : Nat} {xs : Nat → Int32} {Q : Option Value → ab_H → Prop} {v0 : Nat} {v1 : Int32} {v2 : Nat} {v3 : Int32} {v4 : Int32} {g : g_S} {out : Int32} (e : M_Y_same v0 v1 v2 v3 v4 g = some out) (c : Q (some (.int out)) (hp g)) : mw (ab_ext L xs) J_Y_same [.ref v0, .int v1, .ref v2, .int v3, .int v4] (hp g) Q := by
  unfold M_Y_same at e
  refine wp_p (j := J_Y_same) 2 (pc' := 3) (lv' := [(5, .int 0), (0, .ref v0), (1, .int v1), (2, .ref v2), (3, .int v3), (4, .int v4)]) (st' := []) rfl ?_
  obtain ⟨s1, h2, e⟩ := bd e
  refine wp_lv (lv' := [(0, .ref v0), (1, .int v1), (2, .ref v2), (3, .int v3), (4, .int v4), (5, .int 0)]) rfl ⟨rfl, rfl, rfl, rfl, rfl, rfl, trivial⟩ ?_
  refine l_Y_same_3 h2 ?_
  rcases s1 with _ | _
  · replace e := (us_l e)
    show wp (ab_ext L xs) J_Y_same 25 [] [] (hp g) Q
    refine wp_p (j := J_Y_same) 1 (pc' := 26) (lv' := []) (st' := [.int 0]) rfl ?_
    have e := Option.some.inj e; subst e; exact wp_iret (ty := .boolean) rfl rfl (by decide) c
  · replace e := (us_r e)
    show wp (ab_ext L xs) J_Y_same 33 [] [] (hp g) Q
    refine wp_p (j := J_Y_same) 1 (pc' := 34) (lv' := []) (st' := [.int 1]) rfl ?_
    have e := Option.some.inj e; subst e; exact wp_iret (ty := .boolean) rfl rfl (by decide) c
noncomputable def M_Y_alike (v0 : Nat) (v1 : Int32) (v2 : Int32) (g : g_S) : Option Int32 :=
  (rQ g 112 v0 7).bind fun z1 =>
  (aI g 0 z1 v1).bind fun z2 =>
  (rQ g 112 v0 7).bind fun z3 =>
  (aI g 0 z3 v2).bind fun z4 =>
  if z2 = z4 then
    (rQ g 112 v0 6).bind fun z5 =>
    (rQ g 112 v0 6).bind fun z6 =>
    (rQ g 112 v0 7).bind fun z7 =>
    (aI g 0 z7 v1).bind fun z8 =>
    (M_Y_same z5 (v1 * 150) z6 (v2 * 150) z8 g).bind fun z9 =>
    if z9 = 0 then
      some 0
    else
      some 1
  else
    some 0
set_option maxRecDepth 20000 in
theorem d_Y_alike {L : Nat} {xs : Nat → Int32} {Q : Option Value → ab_H → Prop} {v0 : Nat} {v1 : Int32} {v2 : Int32} {g : g_S} {out : Int32} (e : M_Y_alike v0 v1 v2 g = some out) (c : Q (some (.int out)) (hp g)) : mw (ab_ext L xs) J_Y_alike [.ref v0, .int v1, .int v2] (hp g) Q := by
  unfold M_Y_alike at e
  refine wp_p (j := J_Y_alike) 1 (pc' := 1) (lv' := [(0, .ref v0), (1, .int v1), (2, .int v2)]) (st' := [.ref v0]) rfl ?_
  refine x_gQ e rfl rfl fd_12_7 rfl (fun z1 e => ?_)
  refine wp_p (j := J_Y_alike) 1 (pc' := 5) (lv' := [(0, .ref v0), (1, .int v1), (2, .int v2)]) (st' := [.int v1, .ref z1]) rfl ?_
  refine x_aI e rfl rfl (fun z2 e => ?_)
  refine wp_p (j := J_Y_alike) 1 (pc' := 7) (lv' := [(0, .ref v0), (1, .int v1), (2, .int v2)]) (st' := [.ref v0, .int z2]) rfl ?_
  refine x_gQ e rfl rfl fd_12_7 rfl (fun z3 e => ?_)
  refine wp_p (j := J_Y_alike) 1 (pc' := 11) (lv' := [(0, .ref v0), (1, .int v1), (2, .int v2)]) (st' := [.int v2, .ref z3, .int z2]) rfl ?_
  refine x_aI e rfl rfl (fun z4 e => ?_)
  refine x_ne e rfl (fun e => ?_) (fun e => ?_)
  · refine wp_p (j := J_Y_alike) 1 (pc' := 16) (lv' := [(0, .ref v0), (1, .int v1), (2, .int v2)]) (st' := [.ref v0]) rfl ?_
    refine x_gQ e rfl rfl fd_12_6 rfl (fun z5 e => ?_)
    refine wp_p (j := J_Y_alike) 4 (pc' := 25) (lv' := [(0, .ref v0), (1, .int v1), (2, .int v2)]) (st' := [.ref v0, .int (v1 * 150), .ref z5]) rfl ?_
    refine x_gQ e rfl rfl fd_12_6 rfl (fun z6 e => ?_)
    refine wp_p (j := J_Y_alike) 4 (pc' := 34) (lv' := [(0, .ref v0), (1, .int v1), (2, .int v2)]) (st' := [.ref v0, .int (v2 * 150), .ref z6, .int (v1 * 150), .ref z5]) rfl ?_
    refine x_gQ e rfl rfl fd_12_7 rfl (fun z7 e => ?_)
    refine wp_p (j := J_Y_alike) 1 (pc' := 38) (lv' := [(0, .ref v0), (1, .int v1), (2, .int v2)]) (st' := [.int v1, .ref z7, .int (v2 * 150), .ref z6, .int (v1 * 150), .ref z5]) rfl ?_
    refine x_aI e rfl rfl (fun z8 e => ?_)
    refine x_cs1 (As := [.ref z5, .int (v1 * 150), .ref z6, .int (v2 * 150), .int z8]) (rest := []) Value.int e rfl rfl rfl rfl rfl (fun h => d_Y_same h ⟨rfl, rfl⟩) (fun z9 e => ?_)
    refine z_eq e rfl (fun e => ?_) (fun e => ?_)
    · refine wp_p (j := J_Y_alike) 1 (pc' := 50) (lv' := [(0, .ref v0), (1, .int v1), (2, .int v2)]) (st' := [.int 0]) rfl ?_
      have e := Option.some.inj e; subst e; exact wp_iret (ty := .boolean) rfl rfl (by decide) c
    · refine wp_p (j := J_Y_alike) 2 (pc' := 50) (lv' := [(0, .ref v0), (1, .int v1), (2, .int v2)]) (st' := [.int 1]) rfl ?_
      have e := Option.some.inj e; subst e; exact wp_iret (ty := .boolean) rfl rfl (by decide) c
  · refine wp_p (j := J_Y_alike) 1 (pc' := 50) (lv' := [(0, .ref v0), (1, .int v1), (2, .int v2)]) (st' := [.int 0]) rfl ?_
    have e := Option.some.inj e; subst e; exact wp_iret (ty := .boolean) rfl rfl (by decide) c
