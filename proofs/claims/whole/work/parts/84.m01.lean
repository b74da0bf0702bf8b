/-! methods as functions, group 1 -/
noncomputable def k_Bytes_addAll_66 (v0 : Nat) (v1 : Nat) (v2 : Int32) (v4 : Int32) (g : g_S) : Option g_S :=
  (rQ g 104 v0 1).bind fun z1 =>
  (rI g 104 v0 2).bind fun z2 =>
  (cp g 1 v1 v2 z1 z2 v4).bind fun g3 =>
  (rI g3 104 v0 2).bind fun z4 =>
  (wI g3 104 v0 2 (z4 + v4)).bind fun g5 =>
  some g5
set_option maxRecDepth 20000 in
theorem x_Bytes_addAll_66 {L : Nat} {xs : Nat → Int32} {Q : Option Value → ab_H → Prop} {v0 : Nat} {v1 : Nat} {v2 : Int32} {v4 : Int32} {g : g_S} {out : g_S} (e : k_Bytes_addAll_66 v0 v1 v2 v4 g = some out) (c : Q none (hp out)) : wp (ab_ext L xs) J_Bytes_addAll 66 [(0, .ref v0), (1, .ref v1), (2, .int v2), (4, .int v4)] [] (hp g) Q := by
  unfold k_Bytes_addAll_66 at e
  refine wp_p (j := J_Bytes_addAll) 3 (pc' := 69) (lv' := [(0, .ref v0), (1, .ref v1), (2, .int v2), (4, .int v4)]) (st' := [.ref v0, .int v2, .ref v1]) rfl ?_
  refine x_gQ e rfl rfl fd_4_1 rfl (fun z1 e => ?_)
  refine wp_p (j := J_Bytes_addAll) 1 (pc' := 73) (lv' := [(0, .ref v0), (1, .ref v1), (2, .int v2), (4, .int v4)]) (st' := [.ref v0, .ref z1, .int v2, .ref v1]) rfl ?_
  refine x_gI e rfl rfl fd_4_2 rfl (fun z2 e => ?_)
  refine wp_p (j := J_Bytes_addAll) 1 (pc' := 78) (lv' := [(0, .ref v0), (1, .ref v1), (2, .int v2), (4, .int v4)]) (st' := [.int v4, .int z2, .ref z1, .int v2, .ref v1]) rfl ?_
  refine x_cp e rfl (.inr rfl) rfl (fun g3 e => ?_)
  refine wp_p (j := J_Bytes_addAll) 2 (pc' := 83) (lv' := [(0, .ref v0), (1, .ref v1), (2, .int v2), (4, .int v4)]) (st' := [.ref v0, .ref v0]) rfl ?_
  refine x_gI e rfl rfl fd_4_2 rfl (fun z4 e => ?_)
  refine wp_p (j := J_Bytes_addAll) 2 (pc' := 89) (lv' := [(0, .ref v0), (1, .ref v1), (2, .int v2), (4, .int v4)]) (st' := [.int (z4 + v4), .ref v0]) rfl ?_
  refine x_pI e rfl rfl fw_4_2 rfl (fun g5 e => ?_)
  have e := Option.some.inj e; subst e; exact wp_vret rfl rfl c
noncomputable def M_Bytes_addAll (v0 : Nat) (v1 : Nat) (v2 : Int32) (v3 : Int32) (g : g_S) : Option g_S :=
  (rI g 104 v0 0).bind fun z1 =>
  (rI g 104 v0 2).bind fun z2 =>
  if 0 < (mn (v3 - v2) (z1 - z2)) then
    (rI g 104 v0 2).bind fun z3 =>
    (rQ g 104 v0 1).bind fun z4 =>
    (aN g z4).bind fun z5 =>
    if z5 < (z3 + (mn (v3 - v2) (z1 - z2))) then
      (rQ g 104 v0 1).bind fun z6 =>
      (rQ g 104 v0 1).bind fun z7 =>
      (aN g z7).bind fun z8 =>
      (rI g 104 v0 2).bind fun z9 =>
      c2 (M_Arrays_copyOf z6 (mx (2 * z8) (z9 + (mn (v3 - v2) (z1 - z2)))) g) fun z10 g11 =>
      (wR g11 104 v0 1 (some z10)).bind fun g12 =>
      k_Bytes_addAll_66 v0 v1 v2 (mn (v3 - v2) (z1 - z2)) g12
    else
      k_Bytes_addAll_66 v0 v1 v2 (mn (v3 - v2) (z1 - z2)) g
  else
    some g
set_option maxRecDepth 20000 in
theorem d_Bytes_addAll {L : Nat} {xs : Nat → Int32} {Q : Option Value → ab_H → Prop} {v0 : Nat} {v1 : Nat} {v2 : Int32} {v3 : Int32} {g : g_S} {out : g_S} (e : M_Bytes_addAll v0 v1 v2 v3 g = some out) (c : Q none (hp out)) : mw (ab_ext L xs) J_Bytes_addAll [.ref v0, .ref v1, .int v2, .int v3] (hp g) Q := by
  unfold M_Bytes_addAll at e
  refine wp_p (j := J_Bytes_addAll) 4 (pc' := 4) (lv' := [(0, .ref v0), (1, .ref v1), (2, .int v2), (3, .int v3)]) (st' := [.ref v0, .int (v3 - v2)]) rfl ?_
  refine x_gI e rfl rfl fd_4_0 rfl (fun z1 e => ?_)
  refine wp_p (j := J_Bytes_addAll) 1 (pc' := 8) (lv' := [(0, .ref v0), (1, .ref v1), (2, .int v2), (3, .int v3)]) (st' := [.ref v0, .int z1, .int (v3 - v2)]) rfl ?_
  refine x_gI e rfl rfl fd_4_2 rfl (fun z2 e => ?_)
  refine wp_p (j := J_Bytes_addAll) 1 (pc' := 12) (lv' := [(0, .ref v0), (1, .ref v1), (2, .int v2), (3, .int v3)]) (st' := [.int (z1 - z2), .int (v3 - v2)]) rfl ?_
  refine x_mn rfl rfl ?_
  refine wp_p (j := J_Bytes_addAll) 2 (pc' := 19) (lv' := [(4, .int (mn (v3 - v2) (z1 - z2))), (0, .ref v0), (1, .ref v1), (2, .int v2), (3, .int v3)]) (st' := [.int (mn (v3 - v2) (z1 - z2))]) rfl ?_
  refine z_gt e rfl (fun e => ?_) (fun e => ?_)
  · refine wp_p (j := J_Bytes_addAll) 1 (pc' := 24) (lv' := [(4, .int (mn (v3 - v2) (z1 - z2))), (0, .ref v0), (1, .ref v1), (2, .int v2), (3, .int v3)]) (st' := [.ref v0]) rfl ?_
    refine x_gI e rfl rfl fd_4_2 rfl (fun z3 e => ?_)
    refine wp_p (j := J_Bytes_addAll) 3 (pc' := 31) (lv' := [(4, .int (mn (v3 - v2) (z1 - z2))), (0, .ref v0), (1, .ref v1), (2, .int v2), (3, .int v3)]) (st' := [.ref v0, .int (z3 + (mn (v3 - v2) (z1 - z2)))]) rfl ?_
    refine x_gQ e rfl rfl fd_4_1 rfl (fun z4 e => ?_)
    refine x_aN e rfl rfl (fun z5 e => ?_)
    refine x_le e rfl (fun e => ?_) (fun e => ?_)
    · refine wp_p (j := J_Bytes_addAll) 2 (pc' := 40) (lv' := [(4, .int (mn (v3 - v2) (z1 - z2))), (0, .ref v0), (1, .ref v1), (2, .int v2), (3, .int v3)]) (st' := [.ref v0, .ref v0]) rfl ?_
      refine x_gQ e rfl rfl fd_4_1 rfl (fun z6 e => ?_)
      refine wp_p (j := J_Bytes_addAll) 2 (pc' := 45) (lv' := [(4, .int (mn (v3 - v2) (z1 - z2))), (0, .ref v0), (1, .ref v1), (2, .int v2), (3, .int v3)]) (st' := [.ref v0, .int 2, .ref z6, .ref v0]) rfl ?_
      refine x_gQ e rfl rfl fd_4_1 rfl (fun z7 e => ?_)
      refine x_aN e rfl rfl (fun z8 e => ?_)
      refine wp_p (j := J_Bytes_addAll) 2 (pc' := 51) (lv' := [(4, .int (mn (v3 - v2) (z1 - z2))), (0, .ref v0), (1, .ref v1), (2, .int v2), (3, .int v3)]) (st' := [.ref v0, .int (2 * z8), .ref z6, .ref v0]) rfl ?_
      refine x_gI e rfl rfl fd_4_2 rfl (fun z9 e => ?_)
      refine wp_p (j := J_Bytes_addAll) 2 (pc' := 57) (lv' := [(4, .int (mn (v3 - v2) (z1 - z2))), (0, .ref v0), (1, .ref v1), (2, .int v2), (3, .int v3)]) (st' := [.int (z9 + (mn (v3 - v2) (z1 - z2))), .int (2 * z8), .ref z6, .ref v0]) rfl ?_
      refine x_mx rfl rfl ?_
      refine x_cs2 (As := [.ref z6, .int (mx (2 * z8) (z9 + (mn (v3 - v2) (z1 - z2))))]) (rest := [.ref v0]) Value.ref e rfl rfl rfl rfl rfl (fun h => d_Arrays_copyOf h ⟨rfl, rfl⟩) (fun z10 g11 e => ?_)
      refine x_pR (r := (some z10)) e rfl rfl fd_4_1 rfl (fun g12 e => ?_)
      exact wp_lv (lv' := [(0, .ref v0), (1, .ref v1), (2, .int v2), (4, .int (mn (v3 - v2) (z1 - z2)))]) rfl ⟨rfl, rfl, rfl, rfl, trivial⟩ (x_Bytes_addAll_66 e c)
    · exact wp_lv (lv' := [(0, .ref v0), (1, .ref v1), (2, .int v2), (4, .int (mn (v3 - v2) (z1 - z2)))]) rfl ⟨rfl, rfl, rfl, rfl, trivial⟩ (x_Bytes_addAll_66 e c)
  · have e := Option.some.inj e; subst e; exact wp_vret rfl rfl c
noncomputable def M_H_showAddress (v0 : Nat) (v1 : Nat) (g : g_S) : Option (Int32 × g_S) :=
  (rQ g 111 v0 1).bind fun z1 =>
  (vc g 104 z1 (M_Bytes_clear z1 g)).bind fun g2 =>
  (rQ g2 111 v0 1).bind fun z3 =>
  (rQ g2 101 v1 0).bind fun z4 =>
  (rI g2 101 v1 5).bind fun z5 =>
  (vc g2 104 z3 (M_Bytes_addAll z3 z4 0 z5 g2)).bind fun g6 =>
  (rQ g6 111 v0 1).bind fun z7 =>
  (rI g6 104 z7 2).bind fun z8 =>
  some (z8, g6)
set_option maxRecDepth 20000 in
theorem d_H_showAddress {L : Nat} {xs : Nat → Int32} {Q : Option Value → ab_H → Prop} {v0 : Nat} {v1 : Nat} {g : g_S} {out : Int32 × g_S} (e : M_H_showAddress v0 v1 g = some out) (c : Q (some (.int out.1)) (hp out.2)) : mw (ab_ext L xs) J_H_showAddress [.ref v0, .ref v1] (hp g) Q := by
  unfold M_H_showAddress at e
  refine wp_p (j := J_H_showAddress) 1 (pc' := 1) (lv' := [(0, .ref v0), (1, .ref v1)]) (st' := [.ref v0]) rfl ?_
  refine x_gQ e rfl rfl fd_11_1 rfl (fun z1 e => ?_)
  refine x_cv0 (As := []) (rest := []) e rfl rfl rfl rfl rfl rfl (fun h => d_Bytes_clear h ⟨rfl, rfl⟩) (fun g2 e => ?_)
  refine wp_p (j := J_H_showAddress) 1 (pc' := 8) (lv' := [(0, .ref v0), (1, .ref v1)]) (st' := [.ref v0]) rfl ?_
  refine x_gQ e rfl rfl fd_11_1 rfl (fun z3 e => ?_)
  refine wp_p (j := J_H_showAddress) 1 (pc' := 12) (lv' := [(0, .ref v0), (1, .ref v1)]) (st' := [.ref v1, .ref z3]) rfl ?_
  refine x_gQ e rfl rfl fd_1_0 rfl (fun z4 e => ?_)
  refine wp_p (j := J_H_showAddress) 2 (pc' := 17) (lv' := [(0, .ref v0), (1, .ref v1)]) (st' := [.ref v1, .int 0, .ref z4, .ref z3]) rfl ?_
  refine x_gI e rfl rfl fd_1_5 rfl (fun z5 e => ?_)
  refine x_cv0 (As := [.ref z4, .int 0, .int z5]) (rest := []) e rfl rfl rfl rfl rfl rfl (fun h => d_Bytes_addAll h ⟨rfl, rfl⟩) (fun g6 e => ?_)
  refine wp_p (j := J_H_showAddress) 1 (pc' := 24) (lv' := [(0, .ref v0), (1, .ref v1)]) (st' := [.ref v0]) rfl ?_
  refine x_gQ e rfl rfl fd_11_1 rfl (fun z7 e => ?_)
  refine x_gI e rfl rfl fd_4_2 rfl (fun z8 e => ?_)
  have e := Option.some.inj e; subst e; exact wp_iret (ty := .int) rfl rfl rfl c
noncomputable def k_H_resolve_62 (v0 : Nat) (v1 : Int32) (g : g_S) : Option (Int32 × g_S) :=
  (rQ g 111 v0 0).bind fun z1 =>
  (vc g 104 z1 (M_Bytes_clear z1 g)).bind fun g2 =>
  some (v1, g2)
set_option maxRecDepth 20000 in
theorem x_H_resolve_62 {L : Nat} {xs : Nat → Int32} {Q : Option Value → ab_H → Prop} {v0 : Nat} {v1 : Int32} {g : g_S} {out : Int32 × g_S} (e : k_H_resolve_62 v0 v1 g = some out) (c : Q (some (.int out.1)) (hp out.2)) : wp (ab_ext L xs) J_H_resolve 62 [(0, .ref v0), (1, .int v1)] [] (hp g) Q := by
  unfold k_H_resolve_62 at e
  refine wp_p (j := J_H_resolve) 1 (pc' := 63) (lv' := [(0, .ref v0), (1, .int v1)]) (st' := [.ref v0]) rfl ?_
  refine x_gQ e rfl rfl fd_11_0 rfl (fun z1 e => ?_)
  refine x_cv0 (As := []) (rest := []) e rfl rfl rfl rfl rfl rfl (fun h => d_Bytes_clear h ⟨rfl, rfl⟩) (fun g2 e => ?_)
  refine wp_p (j := J_H_resolve) 1 (pc' := 70) (lv' := [(0, .ref v0), (1, .int v1)]) (st' := [.int v1]) rfl ?_
  have e := Option.some.inj e; subst e; exact wp_iret (ty := .int) rfl rfl rfl c
noncomputable def k_H_resolve_61 (v0 : Nat) (w0 : Int32) (g : g_S) : Option (Int32 × g_S) :=
  k_H_resolve_62 v0 w0 g
set_option maxRecDepth 20000 in
theorem x_H_resolve_61 {L : Nat} {xs : Nat → Int32} {Q : Option Value → ab_H → Prop} {v0 : Nat} {w0 : Int32} {g : g_S} {out : Int32 × g_S} (e : k_H_resolve_61 v0 w0 g = some out) (c : Q (some (.int out.1)) (hp out.2)) : wp (ab_ext L xs) J_H_resolve 61 [(0, .ref v0)] [.int w0] (hp g) Q := by
  unfold k_H_resolve_61 at e
  refine wp_p (j := J_H_resolve) 1 (pc' := 62) (lv' := [(1, .int w0), (0, .ref v0)]) (st' := []) rfl ?_
  exact wp_lv (lv' := [(0, .ref v0), (1, .int w0)]) rfl ⟨rfl, rfl, trivial⟩ (x_H_resolve_62 e c)
noncomputable def M_H_resolve (v0 : Nat) (g : g_S) : Option (Int32 × g_S) :=
  (vc g 111 v0 (M_H_wrongByte v0 g)).bind fun z1 =>
  if z1 = 0 then
    (rQ g 111 v0 3).bind fun z2 =>
    (rQ g 106 z2 14).bind fun z3 =>
    (rQ g 111 v0 0).bind fun z4 =>
    (rQ g 104 z4 1).bind fun z5 =>
    (rQ g 111 v0 0).bind fun z6 =>
    (rI g 104 z6 2).bind fun z7 =>
    (rQ g 111 v0 3).bind fun z8 =>
    (rQ g 106 z8 13).bind fun z9 =>
    c2 (vc g 101 z3 (M_Address_read z3 z5 0 z7 z9 g)) fun z10 g11 =>
    if z10 = 0 then
      k_H_resolve_61 v0 (-1) g11
    else
      (rQ g11 111 v0 3).bind fun z12 =>
      (rQ g11 106 z12 14).bind fun z13 =>
      c2 (vc g11 111 v0 (M_H_showAddress v0 z13 g11)) fun z14 g15 =>
      k_H_resolve_61 v0 z14 g15
  else
    k_H_resolve_62 v0 z1 g
set_option maxRecDepth 20000 in
theorem d_H_resolve {L : Nat} {xs : Nat → Int32} {Q : Option Value → ab_H → Prop} {v0 : Nat} {g : g_S} {out : Int32 × g_S} (e : M_H_resolve v0 g = some out) (c : Q (some (.int out.1)) (hp out.2)) : mw (ab_ext L xs) J_H_resolve [.ref v0] (hp g) Q := by
  unfold M_H_resolve at e
  refine wp_p (j := J_H_resolve) 1 (pc' := 1) (lv' := [(0, .ref v0)]) (st' := [.ref v0]) rfl ?_
  refine x_cv1 (As := []) (rest := []) Value.int e rfl rfl rfl rfl rfl rfl (fun h => d_H_wrongByte h ⟨rfl, rfl⟩) (fun z1 e => ?_)
  refine wp_p (j := J_H_resolve) 2 (pc' := 6) (lv' := [(1, .int z1), (0, .ref v0)]) (st' := [.int z1]) rfl ?_
  refine z_ne e rfl (fun e => ?_) (fun e => ?_)
  · refine wp_p (j := J_H_resolve) 1 (pc' := 10) (lv' := [(1, .int z1), (0, .ref v0)]) (st' := [.ref v0]) rfl ?_
    refine x_gQ e rfl rfl fd_11_3 rfl (fun z2 e => ?_)
    refine x_gQ e rfl rfl fd_6_14 rfl (fun z3 e => ?_)
    refine wp_p (j := J_H_resolve) 1 (pc' := 17) (lv' := [(1, .int z1), (0, .ref v0)]) (st' := [.ref v0, .ref z3]) rfl ?_
    refine x_gQ e rfl rfl fd_11_0 rfl (fun z4 e => ?_)
    refine x_gQ e rfl rfl fd_4_1 rfl (fun z5 e => ?_)
    refine wp_p (j := J_H_resolve) 2 (pc' := 25) (lv' := [(1, .int z1), (0, .ref v0)]) (st' := [.ref v0, .int 0, .ref z5, .ref z3]) rfl ?_
    refine x_gQ e rfl rfl fd_11_0 rfl (fun z6 e => ?_)
    refine x_gI e rfl rfl fd_4_2 rfl (fun z7 e => ?_)
    refine wp_p (j := J_H_resolve) 1 (pc' := 32) (lv' := [(1, .int z1), (0, .ref v0)]) (st' := [.ref v0, .int z7, .int 0, .ref z5, .ref z3]) rfl ?_
    refine x_gQ e rfl rfl fd_11_3 rfl (fun z8 e => ?_)
    refine x_gQ e rfl rfl fd_6_13 rfl (fun z9 e => ?_)
    refine x_cv2 (As := [.ref z5, .int 0, .int z7, .ref z9]) (rest := []) Value.int e rfl rfl rfl rfl rfl rfl (fun h => d_Address_read h ⟨rfl, rfl⟩) (fun z10 g11 e => ?_)
    refine wp_p (j := J_H_resolve) 2 (pc' := 43) (lv' := [(2, .int z10), (1, .int z1), (0, .ref v0)]) (st' := [.int z10]) rfl ?_
    refine z_eq e rfl (fun e => ?_) (fun e => ?_)
    · refine wp_p (j := J_H_resolve) 1 (pc' := 61) (lv' := [(2, .int z10), (1, .int z1), (0, .ref v0)]) (st' := [.int (-1)]) rfl ?_
      exact wp_lv (lv' := [(0, .ref v0)]) rfl ⟨rfl, trivial⟩ (x_H_resolve_61 e c)
    · refine wp_p (j := J_H_resolve) 2 (pc' := 48) (lv' := [(2, .int z10), (1, .int z1), (0, .ref v0)]) (st' := [.ref v0, .ref v0]) rfl ?_
      refine x_gQ e rfl rfl fd_11_3 rfl (fun z12 e => ?_)
      refine x_gQ e rfl rfl fd_6_14 rfl (fun z13 e => ?_)
      refine x_cv2 (As := [.ref z13]) (rest := []) Value.int e rfl rfl rfl rfl rfl rfl (fun h => d_H_showAddress h ⟨rfl, rfl⟩) (fun z14 g15 e => ?_)
      refine wp_p (j := J_H_resolve) 1 (pc' := 61) (lv' := [(2, .int z10), (1, .int z1), (0, .ref v0)]) (st' := [.int z14]) rfl ?_
      exact wp_lv (lv' := [(0, .ref v0)]) rfl ⟨rfl, trivial⟩ (x_H_resolve_61 e c)
  · exact wp_lv (lv' := [(0, .ref v0), (1, .int z1)]) rfl ⟨rfl, rfl, trivial⟩ (x_H_resolve_62 e c)
noncomputable def M_Bytes_isBlank (v0 : Int32) (g : g_S) : Option Int32 :=
  if v0 = 10 then
    some 1
  else
    if v0 = 32 then
      some 1
    else
      some 0
set_option maxRecDepth 20000 in
theorem d_Bytes_isBlank {L : Nat} {xs : Nat → Int32} {Q : Option Value → ab_H → Prop} {v0 : Int32} {g : g_S} {out : Int32} (e : M_Bytes_isBlank v0 g = some out) (c : Q (some (.int out)) (hp g)) : mw (ab_ext L xs) J_Bytes_isBlank [.int v0] (hp g) Q := by
  unfold M_Bytes_isBlank at e
  refine wp_p (j := J_Bytes_isBlank) 2 (pc' := 3) (lv' := [(0, .int v0)]) (st' := [.int 10, .int v0]) rfl ?_
  refine x_eq e rfl (fun e => ?_) (fun e => ?_)
  · refine wp_p (j := J_Bytes_isBlank) 2 (pc' := 17) (lv' := [(0, .int v0)]) (st' := [.int 1]) rfl ?_
    have e := Option.some.inj e; subst e; exact wp_iret (ty := .boolean) rfl rfl (by decide) c
  · refine wp_p (j := J_Bytes_isBlank) 2 (pc' := 9) (lv' := [(0, .int v0)]) (st' := [.int 32, .int v0]) rfl ?_
    refine x_ne e rfl (fun e => ?_) (fun e => ?_)
    · refine wp_p (j := J_Bytes_isBlank) 2 (pc' := 17) (lv' := [(0, .int v0)]) (st' := [.int 1]) rfl ?_
      have e := Option.some.inj e; subst e; exact wp_iret (ty := .boolean) rfl rfl (by decide) c
    · refine wp_p (j := J_Bytes_isBlank) 1 (pc' := 17) (lv' := [(0, .int v0)]) (st' := [.int 0]) rfl ?_
      have e := Option.some.inj e; subst e; exact wp_iret (ty := .boolean) rfl rfl (by decide) c
def cL_Net_fieldEnd_2 (L : Nat) (xs : Nat → Int32) (Q : Option Value → ab_H → Prop) (v0 : Nat) (v2 : Int32) (g : g_S) (out : (Int32) ⊕ (Int32)) : Prop := match out with
  | .inl s => wp (ab_ext L xs) J_Net_fieldEnd 2 [(0, .ref v0), (2, .int v2), (3, .int s)] [] (hp g) Q
  | .inr s => wp (ab_ext L xs) J_Net_fieldEnd 22 [(3, .int s)] [] (hp g) Q
noncomputable def b_Net_fieldEnd_2 (v0 : Nat) (v2 : Int32) (v3 : Int32) (g : g_S) : Option ((Int32) ⊕ (Int32)) :=
  if v3 < v2 then
    (aI g 1 v0 v3).bind fun z1 =>
    (M_Bytes_isBlank z1 g).bind fun z2 =>
    if z2 = 0 then
      some (.inl (v3 + 1))
    else
      some (.inr v3)
  else
    some (.inr v3)
set_option maxRecDepth 20000 in
theorem y_Net_fieldEnd_2 {L : Nat} {xs : Nat → Int32} {Q : Option Value → ab_H → Prop} {v0 : Nat} {v2 : Int32} {v3 : Int32} {g : g_S} {out : (Int32) ⊕ (Int32)} (e : b_Net_fieldEnd_2 v0 v2 v3 g = some out) (c : cL_Net_fieldEnd_2 L xs Q v0 v2 g out) : wp (ab_ext L xs) J_Net_fieldEnd 2 [(0, .ref v0), (2, .int v2), (3, .int v3)] [] (hp g) Q := by
  unfold b_Net_fieldEnd_2 at e
  refine wp_p (j := J_Net_fieldEnd) 2 (pc' := 4) (lv' := [(0, .ref v0), (2, .int v2), (3, .int v3)]) (st' := [.int v2, .int v3]) rfl ?_
  refine x_ge e rfl (fun e => ?_) (fun e => ?_)
  · refine wp_p (j := J_Net_fieldEnd) 2 (pc' := 9) (lv' := [(0, .ref v0), (2, .int v2), (3, .int v3)]) (st' := [.int v3, .ref v0]) rfl ?_
    refine x_aB e rfl (.inl rfl) rfl (fun z1 e => ?_)
    refine x_cs1 (As := [.int z1]) (rest := []) Value.int e rfl rfl rfl rfl rfl (fun h => d_Bytes_isBlank h ⟨rfl, rfl⟩) (fun z2 e => ?_)
    refine z_ne e rfl (fun e => ?_) (fun e => ?_)
    · refine wp_p (j := J_Net_fieldEnd) 2 (pc' := 2) (lv' := [(3, .int (v3 + 1)), (0, .ref v0), (2, .int v2)]) (st' := []) rfl ?_
      have e := Option.some.inj e; subst e; exact wp_lv (lv' := [(0, .ref v0), (2, .int v2), (3, .int (v3 + 1))]) rfl ⟨rfl, rfl, rfl, trivial⟩ c
    · have e := Option.some.inj e; subst e; exact wp_lv (lv' := [(3, .int v3)]) rfl ⟨rfl, trivial⟩ c
  · have e := Option.some.inj e; subst e; exact wp_lv (lv' := [(3, .int v3)]) rfl ⟨rfl, trivial⟩ c
noncomputable def L_Net_fieldEnd_2 (v0 : Nat) (v2 : Int32) (v3 : Int32) (g : g_S) : Option (Int32) := it (fun s : Int32 => b_Net_fieldEnd_2 v0 v2 s g) (v3)
theorem l_Net_fieldEnd_2 {L : Nat} {xs : Nat → Int32} {Q : Option Value → ab_H → Prop} {v0 : Nat} {v2 : Int32} {v3 : Int32} {g : g_S} {r : Int32} (e : L_Net_fieldEnd_2 v0 v2 v3 g = some r) (c : cL_Net_fieldEnd_2 L xs Q v0 v2 g (.inr r)) : wp (ab_ext L xs) J_Net_fieldEnd 2 [(0, .ref v0), (2, .int v2), (3, .int v3)] [] (hp g) Q :=
  it_wp (P := fun s : Int32 => wp (ab_ext L xs) J_Net_fieldEnd 2 [(0, .ref v0), (2, .int v2), (3, .int s)] [] (hp g) Q) (E := fun r => cL_Net_fieldEnd_2 L xs Q v0 v2 g (.inr r)) (fun s out e c => y_Net_fieldEnd_2 e (by cases out <;> exact c)) e c
theorem L_Net_fieldEnd_2_eq (v0 : Nat) (v2 : Int32) (v3 : Int32) (g : g_S) : L_Net_fieldEnd_2 v0 v2 v3 g = itc (b_Net_fieldEnd_2 v0 v2 v3 g) (fun s => L_Net_fieldEnd_2 v0 v2 s g) := it_eq2 (fun s : Int32 => b_Net_fieldEnd_2 v0 v2 s g) (v3)
noncomputable def M_Net_fieldEnd (v0 : Nat) (v1 : Int32) (v2 : Int32) (g : g_S) : Option Int32 :=
  (L_Net_fieldEnd_2 v0 v2 v1 g).bind <| fun z3 =>
  some z3
set_option maxRecDepth 20000 in
theorem d_Net_fieldEnd {L : Nat} {xs : Nat → Int32} {Q : Option Value → ab_H → Prop} {v0 : Nat} {v1 : Int32} {v2 : Int32} {g : g_S} {out : Int32} (e : M_Net_fieldEnd v0 v1 v2 g = some out) (c : Q (some (.int out)) (hp g)) : mw (ab_ext L xs) J_Net_fieldEnd [.ref v0, .int v1, .int v2] (hp g) Q := by
  unfold M_Net_fieldEnd at e
  refine wp_p (j := J_Net_fieldEnd) 2 (pc' := 2) (lv' := [(3, .int v1), (0, .ref v0), (1, .int v1), (2, .int v2)]) (st' := []) rfl ?_
  obtain ⟨z3, h2, e⟩ := bd e
  refine wp_lv (lv' := [(0, .ref v0), (2, .int v2), (3, .int v1)]) rfl ⟨rfl, rfl, rfl, trivial⟩ ?_
  refine l_Net_fieldEnd_2 h2 ?_
  show wp (ab_ext L xs) J_Net_fieldEnd 22 [(3, .int z3)] [] (hp g) Q
  refine wp_p (j := J_Net_fieldEnd) 1 (pc' := 23) (lv' := [(3, .int z3)]) (st' := [.int z3]) rfl ?_
  have e := Option.some.inj e; subst e; exact wp_iret (ty := .int) rfl rfl rfl c
noncomputable def M_Address_hasMark (v0 : Nat) (g : g_S) : Option Int32 :=
  (rI g 101 v0 5).bind fun z1 =>
  (rI g 101 v0 4).bind fun z2 =>
  if z2 < z1 then
    some 1
  else
    some 0
set_option maxRecDepth 20000 in
theorem d_Address_hasMark {L : Nat} {xs : Nat → Int32} {Q : Option Value → ab_H → Prop} {v0 : Nat} {g : g_S} {out : Int32} (e : M_Address_hasMark v0 g = some out) (c : Q (some (.int out)) (hp g)) : mw (ab_ext L xs) J_Address_hasMark [.ref v0] (hp g) Q := by
  unfold M_Address_hasMark at e
  refine wp_p (j := J_Address_hasMark) 1 (pc' := 1) (lv' := [(0, .ref v0)]) (st' := [.ref v0]) rfl ?_
  refine x_gI e rfl rfl fd_1_5 rfl (fun z1 e => ?_)
  refine wp_p (j := J_Address_hasMark) 1 (pc' := 5) (lv' := [(0, .ref v0)]) (st' := [.ref v0, .int z1]) rfl ?_
  refine x_gI e rfl rfl fd_1_4 rfl (fun z2 e => ?_)
  refine x_le e rfl (fun e => ?_) (fun e => ?_)
  · refine wp_p (j := J_Address_hasMark) 2 (pc' := 16) (lv' := [(0, .ref v0)]) (st' := [.int 1]) rfl ?_
    have e := Option.some.inj e; subst e; exact wp_iret (ty := .boolean) rfl rfl (by decide) c
  · refine wp_p (j := J_Address_hasMark) 1 (pc' := 16) (lv' := [(0, .ref v0)]) (st' := [.int 0]) rfl ?_
    have e := Option.some.inj e; subst e; exact wp_iret (ty := .boolean) rfl rfl (by decide) c
noncomputable def M_Bytes_isDigit (v0 : Int32) (g : g_S) : Option Int32 :=
  if v0 < 48 then
    some 0
  else
    if 57 < v0 then
      some 0
    else
      some 1
set_option maxRecDepth 20000 in
theorem d_Bytes_isDigit {L : Nat} {xs : Nat → Int32} {Q : Option Value → ab_H → Prop} {v0 : Int32} {g : g_S} {out : Int32} (e : M_Bytes_isDigit v0 g = some out) (c : Q (some (.int out)) (hp g)) : mw (ab_ext L xs) J_Bytes_isDigit [.int v0] (hp g) Q := by
  unfold M_Bytes_isDigit at e
  refine wp_p (j := J_Bytes_isDigit) 2 (pc' := 3) (lv' := [(0, .int v0)]) (st' := [.int 48, .int v0]) rfl ?_
  refine x_lt e rfl (fun e => ?_) (fun e => ?_)
  · refine wp_p (j := J_Bytes_isDigit) 1 (pc' := 17) (lv' := [(0, .int v0)]) (st' := [.int 0]) rfl ?_
    have e := Option.some.inj e; subst e; exact wp_iret (ty := .boolean) rfl rfl (by decide) c
  · refine wp_p (j := J_Bytes_isDigit) 2 (pc' := 9) (lv' := [(0, .int v0)]) (st' := [.int 57, .int v0]) rfl ?_
    refine x_gt e rfl (fun e => ?_) (fun e => ?_)
    · refine wp_p (j := J_Bytes_isDigit) 1 (pc' := 17) (lv' := [(0, .int v0)]) (st' := [.int 0]) rfl ?_
      have e := Option.some.inj e; subst e; exact wp_iret (ty := .boolean) rfl rfl (by decide) c
    · refine wp_p (j := J_Bytes_isDigit) 2 (pc' := 17) (lv' := [(0, .int v0)]) (st' := [.int 1]) rfl ?_
      have e := Option.some.inj e; subst e; exact wp_iret (ty := .boolean) rfl rfl (by decide) c
def cL_Bytes_number_21 (L : Nat) (xs : Nat → Int32) (Q : Option Value → ab_H → Prop) (v0 : Nat) (v2 : Int32) (g : g_S) (out : (Int32 × Int32) ⊕ ((Unit) ⊕ (Int32))) : Prop := match out with
  | .inl s => wp (ab_ext L xs) J_Bytes_number 21 [(0, .ref v0), (2, .int v2), (3, .int s.1), (4, .int s.2)] [] (hp g) Q
  | .inr (.inl s) => wp (ab_ext L xs) J_Bytes_number 37 [] [] (hp g) Q
  | .inr (.inr s) => wp (ab_ext L xs) J_Bytes_number 58 [(3, .int s)] [] (hp g) Q
noncomputable def b_Bytes_number_21 (v0 : Nat) (v2 : Int32) (v3 : Int32) (v4 : Int32) (g : g_S) : Option ((Int32 × Int32) ⊕ ((Unit) ⊕ (Int32))) :=
  if v4 < v2 then
    (aI g 1 v0 v4).bind fun z1 =>
    (M_Bytes_isDigit z1 g).bind fun z2 =>
    if z2 = 0 then
      some (.inr (.inl ()))
    else
      (aI g 1 v0 v4).bind fun z3 =>
      some (.inl (((v3 * 10) + z3) - 48, v4 + 1))
  else
    some (.inr (.inr v3))
set_option maxRecDepth 20000 in
theorem y_Bytes_number_21 {L : Nat} {xs : Nat → Int32} {Q : Option Value → ab_H → Prop} {v0 : Nat} {v2 : Int32} {v3 : Int32} {v4 : Int32} {g : g_S} {out : (Int32 × Int32) ⊕ ((Unit) ⊕ (Int32))} (e : b_Bytes_number_21 v0 v2 v3 v4 g = some out) (c : cL_Bytes_number_21 L xs Q v0 v2 g out) : wp (ab_ext L xs) J_Bytes_number 21 [(0, .ref v0), (2, .int v2), (3, .int v3), (4, .int v4)] [] (hp g) Q := by
  unfold b_Bytes_number_21 at e
  refine wp_p (j := J_Bytes_number) 2 (pc' := 24) (lv' := [(0, .ref v0), (2, .int v2), (3, .int v3), (4, .int v4)]) (st' := [.int v2, .int v4]) rfl ?_
  refine x_ge e rfl (fun e => ?_) (fun e => ?_)
  · refine wp_p (j := J_Bytes_number) 2 (pc' := 30) (lv' := [(0, .ref v0), (2, .int v2), (3, .int v3), (4, .int v4)]) (st' := [.int v4, .ref v0]) rfl ?_
    refine x_aB e rfl (.inl rfl) rfl (fun z1 e => ?_)
    refine x_cs1 (As := [.int z1]) (rest := []) Value.int e rfl rfl rfl rfl rfl (fun h => d_Bytes_isDigit h ⟨rfl, rfl⟩) (fun z2 e => ?_)
    refine z_ne e rfl (fun e => ?_) (fun e => ?_)
    · have e := Option.some.inj e; subst e; exact wp_lv (lv' := []) rfl trivial c
    · refine wp_p (j := J_Bytes_number) 5 (pc' := 46) (lv' := [(0, .ref v0), (2, .int v2), (3, .int v3), (4, .int v4)]) (st' := [.int v4, .ref v0, .int (v3 * 10)]) rfl ?_
      refine x_aB e rfl (.inl rfl) rfl (fun z3 e => ?_)
      refine wp_p (j := J_Bytes_number) 6 (pc' := 21) (lv' := [(4, .int (v4 + 1)), (3, .int (((v3 * 10) + z3) - 48)), (0, .ref v0), (2, .int v2)]) (st' := []) rfl ?_
      have e := Option.some.inj e; subst e; exact wp_lv (lv' := [(0, .ref v0), (2, .int v2), (3, .int (((v3 * 10) + z3) - 48)), (4, .int (v4 + 1))]) rfl ⟨rfl, rfl, rfl, rfl, trivial⟩ c
  · have e := Option.some.inj e; subst e; exact wp_lv (lv' := [(3, .int v3)]) rfl ⟨rfl, trivial⟩ c
noncomputable def L_Bytes_number_21 (v0 : Nat) (v2 : Int32) (v3 : Int32) (v4 : Int32) (g : g_S) : Option ((Unit) ⊕ (Int32)) := it (fun s : Int32 × Int32 => b_Bytes_number_21 v0 v2 s.1 s.2 g) (v3, v4)
theorem l_Bytes_number_21 {L : Nat} {xs : Nat → Int32} {Q : Option Value → ab_H → Prop} {v0 : Nat} {v2 : Int32} {v3 : Int32} {v4 : Int32} {g : g_S} {r : (Unit) ⊕ (Int32)} (e : L_Bytes_number_21 v0 v2 v3 v4 g = some r) (c : cL_Bytes_number_21 L xs Q v0 v2 g (.inr r)) : wp (ab_ext L xs) J_Bytes_number 21 [(0, .ref v0), (2, .int v2), (3, .int v3), (4, .int v4)] [] (hp g) Q :=
  it_wp (P := fun s : Int32 × Int32 => wp (ab_ext L xs) J_Bytes_number 21 [(0, .ref v0), (2, .int v2), (3, .int s.1), (4, .int s.2)] [] (hp g) Q) (E := fun r => cL_Bytes_number_21 L xs Q v0 v2 g (.inr r)) (fun s out e c => y_Bytes_number_21 e (by cases out <;> exact c)) e c
theorem L_Bytes_number_21_eq (v0 : Nat) (v2 : Int32) (v3 : Int32) (v4 : Int32) (g : g_S) : L_Bytes_number_21 v0 v2 v3 v4 g = itc (b_Bytes_number_21 v0 v2 v3 v4 g) (fun s => L_Bytes_number_21 v0 v2 s.1 s.2 g) := it_eq2 (fun s : Int32 × Int32 => b_Bytes_number_21 v0 v2 s.1 s.2 g) (v3, v4)
noncomputable def M_Bytes_number (v0 : Nat) (v1 : Int32) (v2 : Int32) (g : g_S) : Option Int32 :=
  if (v2 - v1) < 1 then
    some (-1)
  else
    if 4 < (v2 - v1) then
      some (-1)
    else
      (L_Bytes_number_21 v0 v2 0 v1 g).bind <|
        us (fun _ =>
        some (-1))
        (fun z3 =>
        some z3)
set_option maxRecDepth 20000 in
theorem d_Bytes_number {L : Nat} {xs : Nat → Int32} {Q : Option Value → ab_H → Prop} {v0 : Nat} {v1 : Int32} {v2 : Int32} {g : g_S} {out : Int32} (e : M_Bytes_number v0 v1 v2 g = some out) (c : Q (some (.int out)) (hp g)) : mw (ab_ext L xs) J_Bytes_number [.ref v0, .int v1, .int v2] (hp g) Q := by
  unfold M_Bytes_number at e
  refine wp_p (j := J_Bytes_number) 4 (pc' := 4) (lv' := [(0, .ref v0), (1, .int v1), (2, .int v2)]) (st' := [.int 1, .int (v2 - v1)]) rfl ?_
  refine x_lt e rfl (fun e => ?_) (fun e => ?_)
  · refine wp_p (j := J_Bytes_number) 1 (pc' := 15) (lv' := [(0, .ref v0), (1, .int v1), (2, .int v2)]) (st' := [.int (-1)]) rfl ?_
    have e := Option.some.inj e; subst e; exact wp_iret (ty := .int) rfl rfl rfl c
  · refine wp_p (j := J_Bytes_number) 4 (pc' := 11) (lv' := [(0, .ref v0), (1, .int v1), (2, .int v2)]) (st' := [.int 4, .int (v2 - v1)]) rfl ?_
    refine x_le e rfl (fun e => ?_) (fun e => ?_)
    · refine wp_p (j := J_Bytes_number) 1 (pc' := 15) (lv' := [(0, .ref v0), (1, .int v1), (2, .int v2)]) (st' := [.int (-1)]) rfl ?_
      have e := Option.some.inj e; subst e; exact wp_iret (ty := .int) rfl rfl rfl c
    · refine wp_p (j := J_Bytes_number) 4 (pc' := 21) (lv' := [(4, .int v1), (3, .int 0), (0, .ref v0), (1, .int v1), (2, .int v2)]) (st' := []) rfl ?_
      obtain ⟨s1, h2, e⟩ := bd e
      refine wp_lv (lv' := [(0, .ref v0), (2, .int v2), (3, .int 0), (4, .int v1)]) rfl ⟨rfl, rfl, rfl, rfl, trivial⟩ ?_
      refine l_Bytes_number_21 h2 ?_
      rcases s1 with _ | z3
      · replace e := (us_l e)
        show wp (ab_ext L xs) J_Bytes_number 37 [] [] (hp g) Q
        refine wp_p (j := J_Bytes_number) 1 (pc' := 38) (lv' := []) (st' := [.int (-1)]) rfl ?_
        have e := Option.some.inj e; subst e; exact wp_iret (ty := .int) rfl rfl rfl c
      · replace e := (us_r e)
        show wp (ab_ext L xs) J_Bytes_number 58 [(3, .int z3)] [] (hp g) Q
        refine wp_p (j := J_Bytes_number) 1 (pc' := 59) (lv' := [(3, .int z3)]) (st' := [.int z3]) rfl ?_
        have e := Option.some.inj e; subst e; exact wp_iret (ty := .int) rfl rfl rfl c
noncomputable def M_Answer_readCookie (v0 : Nat) (v1 : Nat) (v2 : Int32) (v3 : Int32) (g : g_S) : Option (Int32 × g_S) :=
  (M_Bytes_nameEnd v1 v2 v3 g).bind fun z1 =>
  if z1 = v2 then
    some (0, g)
  else
    if z1 = v3 then
      some (0, g)
    else
      (aI g 1 v1 z1).bind fun z2 =>
      if z2 = 58 then
        (M_Bytes_isName v1 (z1 + 1) v3 g).bind fun z3 =>
        if z3 = 0 then
          some (0, g)
        else
          (M_Bytes_pack v1 v2 z1 g).bind fun z4 =>
          (wL g 102 v0 2 z4).bind fun g5 =>
          (M_Bytes_pack v1 (z1 + 1) v3 g5).bind fun z6 =>
          (wL g5 102 v0 3 z6).bind fun g7 =>
          some (1, g7)
      else
        some (0, g)
set_option maxRecDepth 20000 in
theorem d_Answer_readCookie {L : Nat} {xs : Nat → Int32} {Q : Option Value → ab_H → Prop} {v0 : Nat} {v1 : Nat} {v2 : Int32} {v3 : Int32} {g : g_S} {out : Int32 × g_S} (e : M_Answer_readCookie v0 v1 v2 v3 g = some out) (c : Q (some (.int out.1)) (hp out.2)) : mw (ab_ext L xs) J_Answer_readCookie [.ref v0, .ref v1, .int v2, .int v3] (hp g) Q := by
  unfold M_Answer_readCookie at e
  refine wp_p (j := J_Answer_readCookie) 3 (pc' := 3) (lv' := [(0, .ref v0), (1, .ref v1), (2, .int v2), (3, .int v3)]) (st' := [.int v3, .int v2, .ref v1]) rfl ?_
  refine x_cs1 (As := [.ref v1, .int v2, .int v3]) (rest := []) Value.int e rfl rfl rfl rfl rfl (fun h => d_Bytes_nameEnd h ⟨rfl, rfl⟩) (fun z1 e => ?_)
  refine wp_p (j := J_Answer_readCookie) 3 (pc' := 11) (lv' := [(4, .int z1), (0, .ref v0), (1, .ref v1), (2, .int v2), (3, .int v3)]) (st' := [.int v2, .int z1]) rfl ?_
  refine x_eq e rfl (fun e => ?_) (fun e => ?_)
  · refine wp_p (j := J_Answer_readCookie) 1 (pc' := 42) (lv' := [(4, .int z1), (0, .ref v0), (1, .ref v1), (2, .int v2), (3, .int v3)]) (st' := [.int 0]) rfl ?_
    have e := Option.some.inj e; subst e; exact wp_iret (ty := .boolean) rfl rfl (by decide) c
  · refine wp_p (j := J_Answer_readCookie) 2 (pc' := 17) (lv' := [(4, .int z1), (0, .ref v0), (1, .ref v1), (2, .int v2), (3, .int v3)]) (st' := [.int v3, .int z1]) rfl ?_
    refine x_eq e rfl (fun e => ?_) (fun e => ?_)
    · refine wp_p (j := J_Answer_readCookie) 1 (pc' := 42) (lv' := [(4, .int z1), (0, .ref v0), (1, .ref v1), (2, .int v2), (3, .int v3)]) (st' := [.int 0]) rfl ?_
      have e := Option.some.inj e; subst e; exact wp_iret (ty := .boolean) rfl rfl (by decide) c
    · refine wp_p (j := J_Answer_readCookie) 2 (pc' := 23) (lv' := [(4, .int z1), (0, .ref v0), (1, .ref v1), (2, .int v2), (3, .int v3)]) (st' := [.int z1, .ref v1]) rfl ?_
      refine x_aB e rfl (.inl rfl) rfl (fun z2 e => ?_)
      refine wp_p (j := J_Answer_readCookie) 1 (pc' := 26) (lv' := [(4, .int z1), (0, .ref v0), (1, .ref v1), (2, .int v2), (3, .int v3)]) (st' := [.int 58, .int z2]) rfl ?_
      refine x_ne e rfl (fun e => ?_) (fun e => ?_)
      · refine wp_p (j := J_Answer_readCookie) 5 (pc' := 35) (lv' := [(4, .int z1), (0, .ref v0), (1, .ref v1), (2, .int v2), (3, .int v3)]) (st' := [.int v3, .int (z1 + 1), .ref v1]) rfl ?_
        refine x_cs1 (As := [.ref v1, .int (z1 + 1), .int v3]) (rest := []) Value.int e rfl rfl rfl rfl rfl (fun h => d_Bytes_isName h ⟨rfl, rfl⟩) (fun z3 e => ?_)
        refine z_ne e rfl (fun e => ?_) (fun e => ?_)
        · refine wp_p (j := J_Answer_readCookie) 1 (pc' := 42) (lv' := [(4, .int z1), (0, .ref v0), (1, .ref v1), (2, .int v2), (3, .int v3)]) (st' := [.int 0]) rfl ?_
          have e := Option.some.inj e; subst e; exact wp_iret (ty := .boolean) rfl rfl (by decide) c
        · refine wp_p (j := J_Answer_readCookie) 4 (pc' := 48) (lv' := [(4, .int z1), (0, .ref v0), (1, .ref v1), (2, .int v2), (3, .int v3)]) (st' := [.int z1, .int v2, .ref v1, .ref v0]) rfl ?_
          refine x_cs1 (As := [.ref v1, .int v2, .int z1]) (rest := [.ref v0]) Value.long e rfl rfl rfl rfl rfl (fun h => d_Bytes_pack h ⟨rfl, rfl⟩) (fun z4 e => ?_)
          refine x_pL e rfl rfl fw_2_2 rfl (fun g5 e => ?_)
          refine wp_p (j := J_Answer_readCookie) 6 (pc' := 61) (lv' := [(4, .int z1), (0, .ref v0), (1, .ref v1), (2, .int v2), (3, .int v3)]) (st' := [.int v3, .int (z1 + 1), .ref v1, .ref v0]) rfl ?_
          refine x_cs1 (As := [.ref v1, .int (z1 + 1), .int v3]) (rest := [.ref v0]) Value.long e rfl rfl rfl rfl rfl (fun h => d_Bytes_pack h ⟨rfl, rfl⟩) (fun z6 e => ?_)
          refine x_pL e rfl rfl fw_2_3 rfl (fun g7 e => ?_)
          refine wp_p (j := J_Answer_readCookie) 1 (pc' := 68) (lv' := [(4, .int z1), (0, .ref v0), (1, .ref v1), (2, .int v2), (3, .int v3)]) (st' := [.int 1]) rfl ?_
          have e := Option.some.inj e; subst e; exact wp_iret (ty := .boolean) rfl rfl (by decide) c
      · refine wp_p (j := J_Answer_readCookie) 1 (pc' := 42) (lv' := [(4, .int z1), (0, .ref v0), (1, .ref v1), (2, .int v2), (3, .int v3)]) (st' := [.int 0]) rfl ?_
        have e := Option.some.inj e; subst e; exact wp_iret (ty := .boolean) rfl rfl (by decide) c
noncomputable def k_Answer_readField_122 (v0 : Nat) (v1 : Nat) (v2 : Int32) (v3 : Int32) (g : g_S) : Option (Int32 × g_S) :=
  (M_Bytes_stands 1000009 v1 v2 v3 g).bind fun z1 =>
  if z1 = 0 then
    some (0, g)
  else
    if (v3 - v2) = 4 then
      (rI g 102 v0 5).bind fun z2 =>
      if z2 = 0 then
        (wZ g 102 v0 5 1).bind fun g3 =>
        some (1, g3)
      else
        some (0, g)
    else
      some (0, g)
set_option maxRecDepth 20000 in
theorem x_Answer_readField_122 {L : Nat} {xs : Nat → Int32} {Q : Option Value → ab_H → Prop} {v0 : Nat} {v1 : Nat} {v2 : Int32} {v3 : Int32} {g : g_S} {out : Int32 × g_S} (e : k_Answer_readField_122 v0 v1 v2 v3 g = some out) (c : Q (some (.int out.1)) (hp out.2)) : wp (ab_ext L xs) J_Answer_readField 122 [(0, .ref v0), (1, .ref v1), (2, .int v2), (3, .int v3)] [] (hp g) Q := by
  unfold k_Answer_readField_122 at e
  refine x_ls rfl rfl ?_
  refine wp_p (j := J_Answer_readField) 3 (pc' := 127) (lv' := [(0, .ref v0), (1, .ref v1), (2, .int v2), (3, .int v3)]) (st' := [.int v3, .int v2, .ref v1, .ref 1000009]) rfl ?_
  refine x_cs1 (As := [.ref 1000009, .ref v1, .int v2, .int v3]) (rest := []) Value.int e rfl rfl rfl rfl rfl (fun h => d_Bytes_stands h ⟨rfl, rfl⟩) (fun z1 e => ?_)
  refine z_eq e rfl (fun e => ?_) (fun e => ?_)
  · refine wp_p (j := J_Answer_readField) 1 (pc' := 155) (lv' := [(0, .ref v0), (1, .ref v1), (2, .int v2), (3, .int v3)]) (st' := [.int 0]) rfl ?_
    have e := Option.some.inj e; subst e; exact wp_iret (ty := .boolean) rfl rfl (by decide) c
  · refine wp_p (j := J_Answer_readField) 4 (pc' := 137) (lv' := [(0, .ref v0), (1, .ref v1), (2, .int v2), (3, .int v3)]) (st' := [.int 4, .int (v3 - v2)]) rfl ?_
    refine x_ne e rfl (fun e => ?_) (fun e => ?_)
    · refine wp_p (j := J_Answer_readField) 1 (pc' := 141) (lv' := [(0, .ref v0), (1, .ref v1), (2, .int v2), (3, .int v3)]) (st' := [.ref v0]) rfl ?_
      refine x_gI e rfl rfl fd_2_5 rfl (fun z2 e => ?_)
      refine z_ne e rfl (fun e => ?_) (fun e => ?_)
      · refine wp_p (j := J_Answer_readField) 2 (pc' := 149) (lv' := [(0, .ref v0), (1, .ref v1), (2, .int v2), (3, .int v3)]) (st' := [.int 1, .ref v0]) rfl ?_
        refine x_pZ e rfl rfl fw_2_5 rfl (fun g3 e => ?_)
        refine wp_p (j := J_Answer_readField) 1 (pc' := 153) (lv' := [(0, .ref v0), (1, .ref v1), (2, .int v2), (3, .int v3)]) (st' := [.int 1]) rfl ?_
        have e := Option.some.inj e; subst e; exact wp_iret (ty := .boolean) rfl rfl (by decide) c
      · refine wp_p (j := J_Answer_readField) 1 (pc' := 155) (lv' := [(0, .ref v0), (1, .ref v1), (2, .int v2), (3, .int v3)]) (st' := [.int 0]) rfl ?_
        have e := Option.some.inj e; subst e; exact wp_iret (ty := .boolean) rfl rfl (by decide) c
    · refine wp_p (j := J_Answer_readField) 1 (pc' := 155) (lv' := [(0, .ref v0), (1, .ref v1), (2, .int v2), (3, .int v3)]) (st' := [.int 0]) rfl ?_
      have e := Option.some.inj e; subst e; exact wp_iret (ty := .boolean) rfl rfl (by decide) c
noncomputable def k_Answer_readField_76 (v0 : Nat) (v1 : Nat) (v2 : Int32) (v3 : Int32) (g : g_S) : Option (Int32 × g_S) :=
  (M_Bytes_stands 1000008 v1 v2 v3 g).bind fun z1 =>
  if z1 = 0 then
    k_Answer_readField_122 v0 v1 v2 v3 g
  else
    (rO g 102 v0 4).bind fun z2 =>
    oc z2
      (fun q3 =>
      k_Answer_readField_122 v0 v1 v2 v3 g)
      (
      c2 (nO g 101) fun z4 g5 =>
      (M_Address_init z4 g5).bind fun g6 =>
      (wR g6 102 v0 4 (some z4)).bind fun g7 =>
      (rO g7 102 v0 4).bind fun z8 =>
      oc z8
        (fun q9 =>
        (rQ g7 102 v0 0).bind fun z10 =>
        c2 (vc g7 101 q9 (M_Address_read q9 v1 (v2 + 3) v3 z10 g7)) fun z11 g12 =>
        (tz z11).bind fun z13 =>
        some (z13, g12))
        (
        (rQ g7 102 v0 0).bind fun z15 =>
        none))
set_option maxRecDepth 20000 in
theorem x_Answer_readField_76 {L : Nat} {xs : Nat → Int32} {Q : Option Value → ab_H → Prop} {v0 : Nat} {v1 : Nat} {v2 : Int32} {v3 : Int32} {g : g_S} {out : Int32 × g_S} (e : k_Answer_readField_76 v0 v1 v2 v3 g = some out) (c : Q (some (.int out.1)) (hp out.2)) : wp (ab_ext L xs) J_Answer_readField 76 [(0, .ref v0), (1, .ref v1), (2, .int v2), (3, .int v3)] [] (hp g) Q := by
  unfold k_Answer_readField_76 at e
  refine x_ls rfl rfl ?_
  refine wp_p (j := J_Answer_readField) 3 (pc' := 81) (lv' := [(0, .ref v0), (1, .ref v1), (2, .int v2), (3, .int v3)]) (st' := [.int v3, .int v2, .ref v1, .ref 1000008]) rfl ?_
  refine x_cs1 (As := [.ref 1000008, .ref v1, .int v2, .int v3]) (rest := []) Value.int e rfl rfl rfl rfl rfl (fun h => d_Bytes_stands h ⟨rfl, rfl⟩) (fun z1 e => ?_)
  refine z_eq e rfl (fun e => ?_) (fun e => ?_)
  · exact wp_lv (lv' := [(0, .ref v0), (1, .ref v1), (2, .int v2), (3, .int v3)]) rfl ⟨rfl, rfl, rfl, rfl, trivial⟩ (x_Answer_readField_122 e c)
  · refine wp_p (j := J_Answer_readField) 1 (pc' := 88) (lv' := [(0, .ref v0), (1, .ref v1), (2, .int v2), (3, .int v3)]) (st' := [.ref v0]) rfl ?_
    refine x_gO e rfl rfl fd_2_4 rfl (fun z2 e => ?_)
    rcases z2 with _ | q3
    · replace e := oc_n e
      show wp (ab_ext L xs) J_Answer_readField 91 [(0, .ref v0), (1, .ref v1), (2, .int v2), (3, .int v3)] [.null] (hp g) Q
      refine wp_b (pc' := 94) (st' := []) rfl rfl rfl ?_
      refine wp_p (j := J_Answer_readField) 1 (pc' := 95) (lv' := [(0, .ref v0), (1, .ref v1), (2, .int v2), (3, .int v3)]) (st' := [.ref v0]) rfl ?_
      refine x_nO e rfl rfl rfl (fun z4 g5 e => ?_)
      refine wp_p (j := J_Answer_readField) 1 (pc' := 99) (lv' := [(0, .ref v0), (1, .ref v1), (2, .int v2), (3, .int v3)]) (st' := [.ref z4, .ref z4, .ref v0]) rfl ?_
      refine x_ci0 (As := []) (rest := [.ref z4, .ref v0]) e rfl rfl rfl rfl rfl (fun h => d_Address_init h ⟨rfl, rfl⟩) (fun g6 e => ?_)
      refine x_pR (r := (some z4)) e rfl rfl fd_2_4 rfl (fun g7 e => ?_)
      refine wp_p (j := J_Answer_readField) 1 (pc' := 106) (lv' := [(0, .ref v0), (1, .ref v1), (2, .int v2), (3, .int v3)]) (st' := [.ref v0]) rfl ?_
      refine x_gO e rfl rfl fd_2_4 rfl (fun z8 e => ?_)
      rcases z8 with _ | q9
      · replace e := oc_n e
        show wp (ab_ext L xs) J_Answer_readField 109 [(0, .ref v0), (1, .ref v1), (2, .int v2), (3, .int v3)] [.null] (hp g7) Q
        refine wp_p (j := J_Answer_readField) 6 (pc' := 115) (lv' := [(0, .ref v0), (1, .ref v1), (2, .int v2), (3, .int v3)]) (st' := [.ref v0, .int v3, .int (v2 + 3), .ref v1, .null]) rfl ?_
        refine x_gQ e rfl rfl fd_2_0 rfl (fun z15 e => ?_)
        cases e
      · replace e := oc_s e
        show wp (ab_ext L xs) J_Answer_readField 109 [(0, .ref v0), (1, .ref v1), (2, .int v2), (3, .int v3)] [.ref q9] (hp g7) Q
        refine wp_p (j := J_Answer_readField) 6 (pc' := 115) (lv' := [(0, .ref v0), (1, .ref v1), (2, .int v2), (3, .int v3)]) (st' := [.ref v0, .int v3, .int (v2 + 3), .ref v1, .ref q9]) rfl ?_
        refine x_gQ e rfl rfl fd_2_0 rfl (fun z10 e => ?_)
        refine x_cv2 (As := [.ref v1, .int (v2 + 3), .int v3, .ref z10]) (rest := []) Value.int e rfl rfl rfl rfl rfl rfl (fun h => d_Address_read h ⟨rfl, rfl⟩) (fun z11 g12 e => ?_)
        obtain ⟨h14, e⟩ := tz_ok e
        have e := Option.some.inj e; subst e; exact wp_iret (ty := .boolean) rfl rfl h14 c
    · replace e := oc_s e
      show wp (ab_ext L xs) J_Answer_readField 91 [(0, .ref v0), (1, .ref v1), (2, .int v2), (3, .int v3)] [.ref q3] (hp g) Q
      refine wp_b (pc' := 122) (st' := []) rfl rfl rfl ?_
      exact wp_lv (lv' := [(0, .ref v0), (1, .ref v1), (2, .int v2), (3, .int v3)]) rfl ⟨rfl, rfl, rfl, rfl, trivial⟩ (x_Answer_readField_122 e c)
noncomputable def k_Answer_readField_45 (v0 : Nat) (v1 : Nat) (v2 : Int32) (v3 : Int32) (g : g_S) : Option (Int32 × g_S) :=
  (M_Bytes_stands 1000007 v1 v2 v3 g).bind fun z1 =>
  if z1 = 0 then
    k_Answer_readField_76 v0 v1 v2 v3 g
  else
    (rL g 102 v0 2).bind fun z2 =>
    if (lg_cmp z2 0) = 0 then
      c2 (vc g 102 v0 (M_Answer_readCookie v0 v1 (v2 + 7) v3 g)) fun z3 g4 =>
      (tz z3).bind fun z5 =>
      some (z5, g4)
    else
      k_Answer_readField_76 v0 v1 v2 v3 g
set_option maxRecDepth 20000 in
theorem x_Answer_readField_45 {L : Nat} {xs : Nat → Int32} {Q : Option Value → ab_H → Prop} {v0 : Nat} {v1 : Nat} {v2 : Int32} {v3 : Int32} {g : g_S} {out : Int32 × g_S} (e : k_Answer_readField_45 v0 v1 v2 v3 g = some out) (c : Q (some (.int out.1)) (hp out.2)) : wp (ab_ext L xs) J_Answer_readField 45 [(0, .ref v0), (1, .ref v1), (2, .int v2), (3, .int v3)] [] (hp g) Q := by
  unfold k_Answer_readField_45 at e
  refine x_ls rfl rfl ?_
  refine wp_p (j := J_Answer_readField) 3 (pc' := 50) (lv' := [(0, .ref v0), (1, .ref v1), (2, .int v2), (3, .int v3)]) (st' := [.int v3, .int v2, .ref v1, .ref 1000007]) rfl ?_
  refine x_cs1 (As := [.ref 1000007, .ref v1, .int v2, .int v3]) (rest := []) Value.int e rfl rfl rfl rfl rfl (fun h => d_Bytes_stands h ⟨rfl, rfl⟩) (fun z1 e => ?_)
  refine z_eq e rfl (fun e => ?_) (fun e => ?_)
  · exact wp_lv (lv' := [(0, .ref v0), (1, .ref v1), (2, .int v2), (3, .int v3)]) rfl ⟨rfl, rfl, rfl, rfl, trivial⟩ (x_Answer_readField_76 e c)
  · refine wp_p (j := J_Answer_readField) 1 (pc' := 57) (lv' := [(0, .ref v0), (1, .ref v1), (2, .int v2), (3, .int v3)]) (st' := [.ref v0]) rfl ?_
    refine x_gL e rfl rfl fd_2_2 rfl (fun z2 e => ?_)
    refine wp_p (j := J_Answer_readField) 2 (pc' := 62) (lv' := [(0, .ref v0), (1, .ref v1), (2, .int v2), (3, .int v3)]) (st' := [.int (lg_cmp z2 0)]) rfl ?_
    refine z_ne e rfl (fun e => ?_) (fun e => ?_)
    · refine wp_p (j := J_Answer_readField) 6 (pc' := 72) (lv' := [(0, .ref v0), (1, .ref v1), (2, .int v2), (3, .int v3)]) (st' := [.int v3, .int (v2 + 7), .ref v1, .ref v0]) rfl ?_
      refine x_cv2 (As := [.ref v1, .int (v2 + 7), .int v3]) (rest := []) Value.int e rfl rfl rfl rfl rfl rfl (fun h => d_Answer_readCookie h ⟨rfl, rfl⟩) (fun z3 g4 e => ?_)
      obtain ⟨h6, e⟩ := tz_ok e
      have e := Option.some.inj e; subst e; exact wp_iret (ty := .boolean) rfl rfl h6 c
    · exact wp_lv (lv' := [(0, .ref v0), (1, .ref v1), (2, .int v2), (3, .int v3)]) rfl ⟨rfl, rfl, rfl, rfl, trivial⟩ (x_Answer_readField_76 e c)
noncomputable def M_Answer_readField (v0 : Nat) (v1 : Nat) (v2 : Int32) (v3 : Int32) (g : g_S) : Option (Int32 × g_S) :=
  (M_Bytes_stands 1000006 v1 v2 v3 g).bind fun z1 =>
  if z1 = 0 then
    k_Answer_readField_45 v0 v1 v2 v3 g
  else
    (rI g 102 v0 1).bind fun z2 =>
    if z2 = (-1) then
      (M_Bytes_number v1 (v2 + 4) v3 g).bind fun z3 =>
      (wI g 102 v0 1 z3).bind fun g4 =>
      (rI g4 102 v0 1).bind fun z5 =>
      if z5 = (-1) then
        some (0, g4)
      else
        some (1, g4)
    else
      k_Answer_readField_45 v0 v1 v2 v3 g
set_option maxRecDepth 20000 in
theorem d_Answer_readField {L : Nat} {xs : Nat → Int32} {Q : Option Value → ab_H → Prop} {v0 : Nat} {v1 : Nat} {v2 : Int32} {v3 : Int32} {g : g_S} {out : Int32 × g_S} (e : M_Answer_readField v0 v1 v2 v3 g = some out) (c : Q (some (.int out.1)) (hp out.2)) : mw (ab_ext L xs) J_Answer_readField [.ref v0, .ref v1, .int v2, .int v3] (hp g) Q := by
  unfold M_Answer_readField at e
  refine x_ls rfl rfl ?_
  refine wp_p (j := J_Answer_readField) 3 (pc' := 5) (lv' := [(0, .ref v0), (1, .ref v1), (2, .int v2), (3, .int v3)]) (st' := [.int v3, .int v2, .ref v1, .ref 1000006]) rfl ?_
  refine x_cs1 (As := [.ref 1000006, .ref v1, .int v2, .int v3]) (rest := []) Value.int e rfl rfl rfl rfl rfl (fun h => d_Bytes_stands h ⟨rfl, rfl⟩) (fun z1 e => ?_)
  refine z_eq e rfl (fun e => ?_) (fun e => ?_)
  · exact wp_lv (lv' := [(0, .ref v0), (1, .ref v1), (2, .int v2), (3, .int v3)]) rfl ⟨rfl, rfl, rfl, rfl, trivial⟩ (x_Answer_readField_45 e c)
  · refine wp_p (j := J_Answer_readField) 1 (pc' := 12) (lv' := [(0, .ref v0), (1, .ref v1), (2, .int v2), (3, .int v3)]) (st' := [.ref v0]) rfl ?_
    refine x_gI e rfl rfl fd_2_1 rfl (fun z2 e => ?_)
    refine wp_p (j := J_Answer_readField) 1 (pc' := 16) (lv' := [(0, .ref v0), (1, .ref v1), (2, .int v2), (3, .int v3)]) (st' := [.int (-1), .int z2]) rfl ?_
    refine x_ne e rfl (fun e => ?_) (fun e => ?_)
    · refine wp_p (j := J_Answer_readField) 6 (pc' := 25) (lv' := [(0, .ref v0), (1, .ref v1), (2, .int v2), (3, .int v3)]) (st' := [.int v3, .int (v2 + 4), .ref v1, .ref v0]) rfl ?_
      refine x_cs1 (As := [.ref v1, .int (v2 + 4), .int v3]) (rest := [.ref v0]) Value.int e rfl rfl rfl rfl rfl (fun h => d_Bytes_number h ⟨rfl, rfl⟩) (fun z3 e => ?_)
      refine x_pI e rfl rfl fw_2_1 rfl (fun g4 e => ?_)
      refine wp_p (j := J_Answer_readField) 1 (pc' := 32) (lv' := [(0, .ref v0), (1, .ref v1), (2, .int v2), (3, .int v3)]) (st' := [.ref v0]) rfl ?_
      refine x_gI e rfl rfl fd_2_1 rfl (fun z5 e => ?_)
      refine wp_p (j := J_Answer_readField) 1 (pc' := 36) (lv' := [(0, .ref v0), (1, .ref v1), (2, .int v2), (3, .int v3)]) (st' := [.int (-1), .int z5]) rfl ?_
      refine x_eq e rfl (fun e => ?_) (fun e => ?_)
      · refine wp_p (j := J_Answer_readField) 1 (pc' := 44) (lv' := [(0, .ref v0), (1, .ref v1), (2, .int v2), (3, .int v3)]) (st' := [.int 0]) rfl ?_
        have e := Option.some.inj e; subst e; exact wp_iret (ty := .boolean) rfl rfl (by decide) c
      · refine wp_p (j := J_Answer_readField) 2 (pc' := 44) (lv' := [(0, .ref v0), (1, .ref v1), (2, .int v2), (3, .int v3)]) (st' := [.int 1]) rfl ?_
        have e := Option.some.inj e; subst e; exact wp_iret (ty := .boolean) rfl rfl (by decide) c
    · exact wp_lv (lv' := [(0, .ref v0), (1, .ref v1), (2, .int v2), (3, .int v3)]) rfl ⟨rfl, rfl, rfl, rfl, trivial⟩ (x_Answer_readField_45 e c)
noncomputable def M_Arrays_checkLength (v0 : Int32) (v1 : Int32) (g : g_S) : Option g_S :=
  if v1 < v0 then
    none
  else
    some g
set_option maxRecDepth 20000 in
theorem d_Arrays_checkLength {L : Nat} {xs : Nat → Int32} {Q : Option Value → ab_H → Prop} {v0 : Int32} {v1 : Int32} {g : g_S} {out : g_S} (e : M_Arrays_checkLength v0 v1 g = some out) (c : Q none (hp out)) : mw (ab_ext L xs) J_Arrays_checkLength [.int v0, .int v1] (hp g) Q := by
  unfold M_Arrays_checkLength at e
  refine wp_p (j := J_Arrays_checkLength) 2 (pc' := 2) (lv' := [(0, .int v0), (1, .int v1)]) (st' := [.int v0, .int v1]) rfl ?_
  refine x_ge e rfl (fun e => ?_) (fun e => ?_)
  · cases e
  · have e := Option.some.inj e; subst e; exact wp_vret rfl rfl c
noncomputable def M_Arrays_copyOfRangeByte (v0 : Nat) (v1 : Int32) (v2 : Int32) (g : g_S) : Option (Nat × g_S) :=
  (M_Arrays_checkLength v1 v2 g).bind fun g1 =>
  c2 (nA g1 1 (v2 - v1)) fun z2 g3 =>
  (aN g3 v0).bind fun z4 =>
  (cp g3 1 v0 v1 z2 0 (mn (z4 - v1) (v2 - v1))).bind fun g5 =>
  some (z2, g5)
set_option maxRecDepth 20000 in
theorem d_Arrays_copyOfRangeByte {L : Nat} {xs : Nat → Int32} {Q : Option Value → ab_H → Prop} {v0 : Nat} {v1 : Int32} {v2 : Int32} {g : g_S} {out : Nat × g_S} (e : M_Arrays_copyOfRangeByte v0 v1 v2 g = some out) (c : Q (some (.ref out.1)) (hp out.2)) : mw (ab_ext L xs) J_Arrays_copyOfRangeByte [.ref v0, .int v1, .int v2] (hp g) Q := by
  unfold M_Arrays_copyOfRangeByte at e
  refine wp_p (j := J_Arrays_copyOfRangeByte) 2 (pc' := 2) (lv' := [(0, .ref v0), (1, .int v1), (2, .int v2)]) (st' := [.int v2, .int v1]) rfl ?_
  refine x_cs0 (As := [.int v1, .int v2]) (rest := []) e rfl rfl rfl rfl rfl (fun h => d_Arrays_checkLength h ⟨rfl, rfl⟩) (fun g1 e => ?_)
  refine wp_p (j := J_Arrays_copyOfRangeByte) 5 (pc' := 10) (lv' := [(3, .int (v2 - v1)), (0, .ref v0), (1, .int v1), (2, .int v2)]) (st' := [.int (v2 - v1)]) rfl ?_
  refine x_nA e rfl rfl rfl (fun z2 g3 e => ?_)
  refine wp_p (j := J_Arrays_copyOfRangeByte) 6 (pc' := 20) (lv' := [(4, .ref z2), (3, .int (v2 - v1)), (0, .ref v0), (1, .int v1), (2, .int v2)]) (st' := [.ref v0, .int 0, .ref z2, .int v1, .ref v0]) rfl ?_
  refine x_aN e rfl rfl (fun z4 e => ?_)
  refine wp_p (j := J_Arrays_copyOfRangeByte) 3 (pc' := 24) (lv' := [(4, .ref z2), (3, .int (v2 - v1)), (0, .ref v0), (1, .int v1), (2, .int v2)]) (st' := [.int (v2 - v1), .int (z4 - v1), .int 0, .ref z2, .int v1, .ref v0]) rfl ?_
  refine x_mn rfl rfl ?_
  refine x_cp e rfl (.inr rfl) rfl (fun g5 e => ?_)
  refine wp_p (j := J_Arrays_copyOfRangeByte) 1 (pc' := 32) (lv' := [(4, .ref z2), (3, .int (v2 - v1)), (0, .ref v0), (1, .int v1), (2, .int v2)]) (st' := [.ref z2]) rfl ?_
  have e := Option.some.inj e; subst e; exact wp_r rfl rfl rfl rfl rfl c
noncomputable def k_Arrays_copyOfRange_10 (v0 : Nat) (v1 : Int32) (v2 : Int32) (g : g_S) : Option (Nat × g_S) :=
  c2 (M_Arrays_copyOfRangeByte v0 v1 v2 g) fun z1 g2 =>
  some (z1, g2)
set_option maxRecDepth 20000 in
theorem x_Arrays_copyOfRange_10 {L : Nat} {xs : Nat → Int32} {Q : Option Value → ab_H → Prop} {v0 : Nat} {v1 : Int32} {v2 : Int32} {g : g_S} {out : Nat × g_S} (e : k_Arrays_copyOfRange_10 v0 v1 v2 g = some out) (c : Q (some (.ref out.1)) (hp out.2)) : wp (ab_ext L xs) J_Arrays_copyOfRange 10 [(0, .ref v0), (1, .int v1), (2, .int v2)] [] (hp g) Q := by
  unfold k_Arrays_copyOfRange_10 at e
  refine wp_p (j := J_Arrays_copyOfRange) 3 (pc' := 13) (lv' := [(0, .ref v0), (1, .int v1), (2, .int v2)]) (st' := [.int v2, .int v1, .ref v0]) rfl ?_
  refine x_cs2 (As := [.ref v0, .int v1, .int v2]) (rest := []) Value.ref e rfl rfl rfl rfl rfl (fun h => d_Arrays_copyOfRangeByte h ⟨rfl, rfl⟩) (fun z1 g2 e => ?_)
  have e := Option.some.inj e; subst e; exact wp_r rfl rfl rfl rfl rfl c
noncomputable def M_Arrays_copyOfRange (v0 : Nat) (v1 : Int32) (v2 : Int32) (g : g_S) : Option (Nat × g_S) :=
  if v1 = 0 then
    (aN g v0).bind fun z1 =>
    if v2 = z1 then
      none
    else
      k_Arrays_copyOfRange_10 v0 v1 v2 g
  else
    k_Arrays_copyOfRange_10 v0 v1 v2 g
set_option maxRecDepth 20000 in
theorem d_Arrays_copyOfRange {L : Nat} {xs : Nat → Int32} {Q : Option Value → ab_H → Prop} {v0 : Nat} {v1 : Int32} {v2 : Int32} {g : g_S} {out : Nat × g_S} (e : M_Arrays_copyOfRange v0 v1 v2 g = some out) (c : Q (some (.ref out.1)) (hp out.2)) : mw (ab_ext L xs) J_Arrays_copyOfRange [.ref v0, .int v1, .int v2] (hp g) Q := by
  unfold M_Arrays_copyOfRange at e
  refine wp_p (j := J_Arrays_copyOfRange) 1 (pc' := 1) (lv' := [(0, .ref v0), (1, .int v1), (2, .int v2)]) (st' := [.int v1]) rfl ?_
  refine z_ne e rfl (fun e => ?_) (fun e => ?_)
  · refine wp_p (j := J_Arrays_copyOfRange) 2 (pc' := 6) (lv' := [(0, .ref v0), (1, .int v1), (2, .int v2)]) (st' := [.ref v0, .int v2]) rfl ?_
    refine x_aN e rfl rfl (fun z1 e => ?_)
    refine x_eq e rfl (fun e => ?_) (fun e => ?_)
    · refine wp_p (j := J_Arrays_copyOfRange) 1 (pc' := 18) (lv' := [(0, .ref v0), (1, .int v1), (2, .int v2)]) (st' := [.ref v0]) rfl ?_
      cases e
    · exact wp_lv (lv' := [(0, .ref v0), (1, .int v1), (2, .int v2)]) rfl ⟨rfl, rfl, rfl, trivial⟩ (x_Arrays_copyOfRange_10 e c)
  · exact wp_lv (lv' := [(0, .ref v0), (1, .int v1), (2, .int v2)]) rfl ⟨rfl, rfl, rfl, trivial⟩ (x_Arrays_copyOfRange_10 e c)
def cL_Address_isAt_15 (L : Nat) (xs : Nat → Int32) (Q : Option Value → ab_H → Prop) (v0 : Nat) (v1 : Nat) (g : g_S) (out : (Int32) ⊕ ((Unit) ⊕ (Unit))) : Prop := match out with
  | .inl s => wp (ab_ext L xs) J_Address_isAt 15 [(0, .ref v0), (1, .ref v1), (2, .int s)] [] (hp g) Q
  | .inr (.inl s) => wp (ab_ext L xs) J_Address_isAt 38 [] [] (hp g) Q
  | .inr (.inr s) => wp (ab_ext L xs) J_Address_isAt 46 [] [] (hp g) Q
noncomputable def b_Address_isAt_15 (v0 : Nat) (v1 : Nat) (v2 : Int32) (g : g_S) : Option ((Int32) ⊕ ((Unit) ⊕ (Unit))) :=
  (rI g 101 v0 4).bind fun z1 =>
  if v2 < z1 then
    (rQ g 101 v0 0).bind fun z2 =>
    (aI g 1 z2 v2).bind fun z3 =>
    (rQ g 101 v1 0).bind fun z4 =>
    (aI g 1 z4 v2).bind fun z5 =>
    if z3 = z5 then
      some (.inl (v2 + 1))
    else
      some (.inr (.inl ()))
  else
    some (.inr (.inr ()))
set_option maxRecDepth 20000 in
theorem y_Address_isAt_15 {L : Nat} {xs : Nat → Int32} {Q : Option Value → ab_H → Prop} {v0 : Nat} {v1 : Nat} {v2 : Int32} {g : g_S} {out : (Int32) ⊕ ((Unit) ⊕ (Unit))} (e : b_Address_isAt_15 v0 v1 v2 g = some out) (c : cL_Address_isAt_15 L xs Q v0 v1 g out) : wp (ab_ext L xs) J_Address_isAt 15 [(0, .ref v0), (1, .ref v1), (2, .int v2)] [] (hp g) Q := by
  unfold b_Address_isAt_15 at e
  refine wp_p (j := J_Address_isAt) 2 (pc' := 17) (lv' := [(0, .ref v0), (1, .ref v1), (2, .int v2)]) (st' := [.ref v0, .int v2]) rfl ?_
  refine x_gI e rfl rfl fd_1_4 rfl (fun z1 e => ?_)
  refine x_ge e rfl (fun e => ?_) (fun e => ?_)
  · refine wp_p (j := J_Address_isAt) 1 (pc' := 24) (lv' := [(0, .ref v0), (1, .ref v1), (2, .int v2)]) (st' := [.ref v0]) rfl ?_
    refine x_gQ e rfl rfl fd_1_0 rfl (fun z2 e => ?_)
    refine wp_p (j := J_Address_isAt) 1 (pc' := 28) (lv' := [(0, .ref v0), (1, .ref v1), (2, .int v2)]) (st' := [.int v2, .ref z2]) rfl ?_
    refine x_aB e rfl (.inl rfl) rfl (fun z3 e => ?_)
    refine wp_p (j := J_Address_isAt) 1 (pc' := 30) (lv' := [(0, .ref v0), (1, .ref v1), (2, .int v2)]) (st' := [.ref v1, .int z3]) rfl ?_
    refine x_gQ e rfl rfl fd_1_0 rfl (fun z4 e => ?_)
    refine wp_p (j := J_Address_isAt) 1 (pc' := 34) (lv' := [(0, .ref v0), (1, .ref v1), (2, .int v2)]) (st' := [.int v2, .ref z4, .int z3]) rfl ?_
    refine x_aB e rfl (.inl rfl) rfl (fun z5 e => ?_)
    refine x_eq e rfl (fun e => ?_) (fun e => ?_)
    · refine wp_p (j := J_Address_isAt) 2 (pc' := 15) (lv' := [(2, .int (v2 + 1)), (0, .ref v0), (1, .ref v1)]) (st' := []) rfl ?_
      have e := Option.some.inj e; subst e; exact wp_lv (lv' := [(0, .ref v0), (1, .ref v1), (2, .int (v2 + 1))]) rfl ⟨rfl, rfl, rfl, trivial⟩ c
    · have e := Option.some.inj e; subst e; exact wp_lv (lv' := []) rfl trivial c
  · have e := Option.some.inj e; subst e; exact wp_lv (lv' := []) rfl trivial c
noncomputable def L_Address_isAt_15 (v0 : Nat) (v1 : Nat) (v2 : Int32) (g : g_S) : Option ((Unit) ⊕ (Unit)) := it (fun s : Int32 => b_Address_isAt_15 v0 v1 s g) (v2)
theorem l_Address_isAt_15 {L : Nat} {xs : Nat → Int32} {Q : Option Value → ab_H → Prop} {v0 : Nat} {v1 : Nat} {v2 : Int32} {g : g_S} {r : (Unit) ⊕ (Unit)} (e : L_Address_isAt_15 v0 v1 v2 g = some r) (c : cL_Address_isAt_15 L xs Q v0 v1 g (.inr r)) : wp (ab_ext L xs) J_Address_isAt 15 [(0, .ref v0), (1, .ref v1), (2, .int v2)] [] (hp g) Q :=
  it_wp (P := fun s : Int32 => wp (ab_ext L xs) J_Address_isAt 15 [(0, .ref v0), (1, .ref v1), (2, .int s)] [] (hp g) Q) (E := fun r => cL_Address_isAt_15 L xs Q v0 v1 g (.inr r)) (fun s out e c => y_Address_isAt_15 e (by cases out <;> exact c)) e c
theorem L_Address_isAt_15_eq (v0 : Nat) (v1 : Nat) (v2 : Int32) (g : g_S) : L_Address_isAt_15 v0 v1 v2 g = itc (b_Address_isAt_15 v0 v1 v2 g) (fun s => L_Address_isAt_15 v0 v1 s g) := it_eq2 (fun s : Int32 => b_Address_isAt_15 v0 v1 s g) (v2)
noncomputable def M_Address_isAt (v0 : Nat) (v1 : Nat) (g : g_S) : Option Int32 :=
  (rI g 101 v0 4).bind fun z1 =>
  (rI g 101 v1 4).bind fun z2 =>
  if z1 = z2 then
    (L_Address_isAt_15 v0 v1 0 g).bind <|
      us (fun _ =>
      some 0)
      (fun _ =>
      some 1)
  else
    some 0
set_option maxRecDepth 20000 in
theorem d_Address_isAt {L : Nat} {xs : Nat → Int32} {Q : Option Value → ab_H → Prop} {v0 : Nat} {v1 : Nat} {g : g_S} {out : Int32} (e : M_Address_isAt v0 v1 g = some out) (c : Q (some (.int out)) (hp g)) : mw (ab_ext L xs) J_Address_isAt [.ref v0, .ref v1] (hp g) Q := by
  unfold M_Address_isAt at e
  refine wp_p (j := J_Address_isAt) 1 (pc' := 1) (lv' := [(0, .ref v0), (1, .ref v1)]) (st' := [.ref v0]) rfl ?_
  refine x_gI e rfl rfl fd_1_4 rfl (fun z1 e => ?_)
  refine wp_p (j := J_Address_isAt) 1 (pc' := 5) (lv' := [(0, .ref v0), (1, .ref v1)]) (st' := [.ref v1, .int z1]) rfl ?_
  refine x_gI e rfl rfl fd_1_4 rfl (fun z2 e => ?_)
  refine x_eq e rfl (fun e => ?_) (fun e => ?_)
  · refine wp_p (j := J_Address_isAt) 2 (pc' := 15) (lv' := [(2, .int 0), (0, .ref v0), (1, .ref v1)]) (st' := []) rfl ?_
    obtain ⟨s3, h4, e⟩ := bd e
    refine wp_lv (lv' := [(0, .ref v0), (1, .ref v1), (2, .int 0)]) rfl ⟨rfl, rfl, rfl, trivial⟩ ?_
    refine l_Address_isAt_15 h4 ?_
    rcases s3 with _ | _
    · replace e := (us_l e)
      show wp (ab_ext L xs) J_Address_isAt 38 [] [] (hp g) Q
      refine wp_p (j := J_Address_isAt) 1 (pc' := 39) (lv' := []) (st' := [.int 0]) rfl ?_
      have e := Option.some.inj e; subst e; exact wp_iret (ty := .boolean) rfl rfl (by decide) c
    · replace e := (us_r e)
      show wp (ab_ext L xs) J_Address_isAt 46 [] [] (hp g) Q
      refine wp_p (j := J_Address_isAt) 1 (pc' := 47) (lv' := []) (st' := [.int 1]) rfl ?_
      have e := Option.some.inj e; subst e; exact wp_iret (ty := .boolean) rfl rfl (by decide) c
  · refine wp_p (j := J_Address_isAt) 1 (pc' := 12) (lv' := [(0, .ref v0), (1, .ref v1)]) (st' := [.int 0]) rfl ?_
    have e := Option.some.inj e; subst e; exact wp_iret (ty := .boolean) rfl rfl (by decide) c
def cL_Net_putAnswer_2 (L : Nat) (xs : Nat → Int32) (Q : Option Value → ab_H → Prop) (v0 : Nat) (v1 : Nat) (g : g_S) (out : (Int32) ⊕ (Int32)) : Prop := match out with
  | .inl s => wp (ab_ext L xs) J_Net_putAnswer 2 [(0, .ref v0), (1, .ref v1), (2, .int s)] [] (hp g) Q
  | .inr s => wp (ab_ext L xs) J_Net_putAnswer 35 [(0, .ref v0), (1, .ref v1), (2, .int s)] [] (hp g) Q
noncomputable def b_Net_putAnswer_2 (v0 : Nat) (v1 : Nat) (v2 : Int32) (g : g_S) : Option ((Int32) ⊕ (Int32)) :=
  (rI g 106 v0 2).bind fun z1 =>
  if v2 < z1 then
    (rQ g 106 v0 1).bind fun z2 =>
    (aQ g 7 z2 v2).bind fun z3 =>
    (rQ g 102 z3 0).bind fun z4 =>
    (rQ g 102 v1 0).bind fun z5 =>
    (vc g 101 z4 (M_Address_isAt z4 z5 g)).bind fun z6 =>
    if z6 = 0 then
      some (.inl (v2 + 1))
    else
      some (.inr v2)
  else
    some (.inr v2)
set_option maxRecDepth 20000 in
theorem y_Net_putAnswer_2 {L : Nat} {xs : Nat → Int32} {Q : Option Value → ab_H → Prop} {v0 : Nat} {v1 : Nat} {v2 : Int32} {g : g_S} {out : (Int32) ⊕ (Int32)} (e : b_Net_putAnswer_2 v0 v1 v2 g = some out) (c : cL_Net_putAnswer_2 L xs Q v0 v1 g out) : wp (ab_ext L xs) J_Net_putAnswer 2 [(0, .ref v0), (1, .ref v1), (2, .int v2)] [] (hp g) Q := by
  unfold b_Net_putAnswer_2 at e
  refine wp_p (j := J_Net_putAnswer) 2 (pc' := 4) (lv' := [(0, .ref v0), (1, .ref v1), (2, .int v2)]) (st' := [.ref v0, .int v2]) rfl ?_
  refine x_gI e rfl rfl fd_6_2 rfl (fun z1 e => ?_)
  refine x_ge e rfl (fun e => ?_) (fun e => ?_)
  · refine wp_p (j := J_Net_putAnswer) 1 (pc' := 11) (lv' := [(0, .ref v0), (1, .ref v1), (2, .int v2)]) (st' := [.ref v0]) rfl ?_
    refine x_gQ e rfl rfl fd_6_1 rfl (fun z2 e => ?_)
    refine wp_p (j := J_Net_putAnswer) 1 (pc' := 15) (lv' := [(0, .ref v0), (1, .ref v1), (2, .int v2)]) (st' := [.int v2, .ref z2]) rfl ?_
    refine x_aQ e rfl rfl rfl (fun z3 e => ?_)
    refine x_gQ e rfl rfl fd_2_0 rfl (fun z4 e => ?_)
    refine wp_p (j := J_Net_putAnswer) 1 (pc' := 20) (lv' := [(0, .ref v0), (1, .ref v1), (2, .int v2)]) (st' := [.ref v1, .ref z4]) rfl ?_
    refine x_gQ e rfl rfl fd_2_0 rfl (fun z5 e => ?_)
    refine x_cv1 (As := [.ref z5]) (rest := []) Value.int e rfl rfl rfl rfl rfl rfl (fun h => d_Address_isAt h ⟨rfl, rfl⟩) (fun z6 e => ?_)
    refine z_ne e rfl (fun e => ?_) (fun e => ?_)
    · refine wp_p (j := J_Net_putAnswer) 2 (pc' := 2) (lv' := [(2, .int (v2 + 1)), (0, .ref v0), (1, .ref v1)]) (st' := []) rfl ?_
      have e := Option.some.inj e; subst e; exact wp_lv (lv' := [(0, .ref v0), (1, .ref v1), (2, .int (v2 + 1))]) rfl ⟨rfl, rfl, rfl, trivial⟩ c
    · have e := Option.some.inj e; subst e; exact wp_lv (lv' := [(0, .ref v0), (1, .ref v1), (2, .int v2)]) rfl ⟨rfl, rfl, rfl, trivial⟩ c
  · have e := Option.some.inj e; subst e; exact wp_lv (lv' := [(0, .ref v0), (1, .ref v1), (2, .int v2)]) rfl ⟨rfl, rfl, rfl, trivial⟩ c
noncomputable def L_Net_putAnswer_2 (v0 : Nat) (v1 : Nat) (v2 : Int32) (g : g_S) : Option (Int32) := it (fun s : Int32 => b_Net_putAnswer_2 v0 v1 s g) (v2)
theorem l_Net_putAnswer_2 {L : Nat} {xs : Nat → Int32} {Q : Option Value → ab_H → Prop} {v0 : Nat} {v1 : Nat} {v2 : Int32} {g : g_S} {r : Int32} (e : L_Net_putAnswer_2 v0 v1 v2 g = some r) (c : cL_Net_putAnswer_2 L xs Q v0 v1 g (.inr r)) : wp (ab_ext L xs) J_Net_putAnswer 2 [(0, .ref v0), (1, .ref v1), (2, .int v2)] [] (hp g) Q :=
  it_wp (P := fun s : Int32 => wp (ab_ext L xs) J_Net_putAnswer 2 [(0, .ref v0), (1, .ref v1), (2, .int s)] [] (hp g) Q) (E := fun r => cL_Net_putAnswer_2 L xs Q v0 v1 g (.inr r)) (fun s out e c => y_Net_putAnswer_2 e (by cases out <;> exact c)) e c
theorem L_Net_putAnswer_2_eq (v0 : Nat) (v1 : Nat) (v2 : Int32) (g : g_S) : L_Net_putAnswer_2 v0 v1 v2 g = itc (b_Net_putAnswer_2 v0 v1 v2 g) (fun s => L_Net_putAnswer_2 v0 v1 s g) := it_eq2 (fun s : Int32 => b_Net_putAnswer_2 v0 v1 s g) (v2)
noncomputable def k_Net_putAnswer_35 (v0 : Nat) (v1 : Nat) (v2 : Int32) (g : g_S) : Option (Int32 × g_S) :=
  if v2 = 12 then
    some ((-1), g)
  else
    (rQ g 106 v0 1).bind fun z1 =>
    (sQ g 7 z1 v2 v1).bind fun g2 =>
    (rI g2 106 v0 2).bind fun z3 =>
    (wI g2 106 v0 2 (mx z3 (v2 + 1))).bind fun g4 =>
    (rI g4 106 v0 2).bind fun z5 =>
    some (z5, g4)
set_option maxRecDepth 20000 in
theorem x_Net_putAnswer_35 {L : Nat} {xs : Nat → Int32} {Q : Option Value → ab_H → Prop} {v0 : Nat} {v1 : Nat} {v2 : Int32} {g : g_S} {out : Int32 × g_S} (e : k_Net_putAnswer_35 v0 v1 v2 g = some out) (c : Q (some (.int out.1)) (hp out.2)) : wp (ab_ext L xs) J_Net_putAnswer 35 [(0, .ref v0), (1, .ref v1), (2, .int v2)] [] (hp g) Q := by
  unfold k_Net_putAnswer_35 at e
  refine wp_p (j := J_Net_putAnswer) 2 (pc' := 38) (lv' := [(0, .ref v0), (1, .ref v1), (2, .int v2)]) (st' := [.int 12, .int v2]) rfl ?_
  refine x_ne e rfl (fun e => ?_) (fun e => ?_)
  · refine wp_p (j := J_Net_putAnswer) 1 (pc' := 42) (lv' := [(0, .ref v0), (1, .ref v1), (2, .int v2)]) (st' := [.int (-1)]) rfl ?_
    have e := Option.some.inj e; subst e; exact wp_iret (ty := .int) rfl rfl rfl c
  · refine wp_p (j := J_Net_putAnswer) 1 (pc' := 44) (lv' := [(0, .ref v0), (1, .ref v1), (2, .int v2)]) (st' := [.ref v0]) rfl ?_
    refine x_gQ e rfl rfl fd_6_1 rfl (fun z1 e => ?_)
    refine wp_p (j := J_Net_putAnswer) 2 (pc' := 49) (lv' := [(0, .ref v0), (1, .ref v1), (2, .int v2)]) (st' := [.ref v1, .int v2, .ref z1]) rfl ?_
    refine x_sQ e rfl rfl rfl (fun g2 e => ?_)
    refine wp_p (j := J_Net_putAnswer) 2 (pc' := 52) (lv' := [(0, .ref v0), (1, .ref v1), (2, .int v2)]) (st' := [.ref v0, .ref v0]) rfl ?_
    refine x_gI e rfl rfl fd_6_2 rfl (fun z3 e => ?_)
    refine wp_p (j := J_Net_putAnswer) 3 (pc' := 58) (lv' := [(0, .ref v0), (1, .ref v1), (2, .int v2)]) (st' := [.int (v2 + 1), .int z3, .ref v0]) rfl ?_
    refine x_mx rfl rfl ?_
    refine x_pI e rfl rfl fw_6_2 rfl (fun g4 e => ?_)
    refine wp_p (j := J_Net_putAnswer) 1 (pc' := 65) (lv' := [(0, .ref v0), (1, .ref v1), (2, .int v2)]) (st' := [.ref v0]) rfl ?_
    refine x_gI e rfl rfl fd_6_2 rfl (fun z5 e => ?_)
    have e := Option.some.inj e; subst e; exact wp_iret (ty := .int) rfl rfl rfl c
noncomputable def M_Net_putAnswer (v0 : Nat) (v1 : Nat) (g : g_S) : Option (Int32 × g_S) :=
  (L_Net_putAnswer_2 v0 v1 0 g).bind <| fun z3 =>
  k_Net_putAnswer_35 v0 v1 z3 g
set_option maxRecDepth 20000 in
theorem d_Net_putAnswer {L : Nat} {xs : Nat → Int32} {Q : Option Value → ab_H → Prop} {v0 : Nat} {v1 : Nat} {g : g_S} {out : Int32 × g_S} (e : M_Net_putAnswer v0 v1 g = some out) (c : Q (some (.int out.1)) (hp out.2)) : mw (ab_ext L xs) J_Net_putAnswer [.ref v0, .ref v1] (hp g) Q := by
  unfold M_Net_putAnswer at e
  refine wp_p (j := J_Net_putAnswer) 2 (pc' := 2) (lv' := [(2, .int 0), (0, .ref v0), (1, .ref v1)]) (st' := []) rfl ?_
  obtain ⟨z3, h2, e⟩ := bd e
  refine wp_lv (lv' := [(0, .ref v0), (1, .ref v1), (2, .int 0)]) rfl ⟨rfl, rfl, rfl, trivial⟩ ?_
  refine l_Net_putAnswer_2 h2 ?_
  show wp (ab_ext L xs) J_Net_putAnswer 35 [(0, .ref v0), (1, .ref v1), (2, .int z3)] [] (hp g) Q
  exact wp_lv (lv' := [(0, .ref v0), (1, .ref v1), (2, .int z3)]) rfl ⟨rfl, rfl, rfl, trivial⟩ (x_Net_putAnswer_35 e c)
def cL_Net_takeServer_63 (L : Nat) (xs : Nat → Int32) (Q : Option Value → ab_H → Prop) (v0 : Nat) (v1 : Nat) (v2 : Int32) (v3 : Nat) (out : (Int32 × Int32 × g_S) ⊕ ((Int32 × g_S) ⊕ (Int32 × g_S))) : Prop := match out with
  | .inl s => wp (ab_ext L xs) J_Net_takeServer 63 [(0, .ref v0), (1, .ref v1), (2, .int v2), (3, .ref v3), (4, .int s.1), (5, .int s.2.1)] [] (hp s.2.2) Q
  | .inr (.inl s) => wp (ab_ext L xs) J_Net_takeServer 111 [(6, .int s.1)] [] (hp s.2) Q
  | .inr (.inr s) => wp (ab_ext L xs) J_Net_takeServer 124 [(0, .ref v0), (1, .ref v1), (2, .int v2), (3, .ref v3), (4, .int s.1)] [] (hp s.2) Q
noncomputable def b_Net_takeServer_63 (v0 : Nat) (v1 : Nat) (v2 : Int32) (v3 : Nat) (v4 : Int32) (v5 : Int32) (g : g_S) : Option ((Int32 × Int32 × g_S) ⊕ ((Int32 × g_S) ⊕ (Int32 × g_S))) :=
  if v5 < v2 then
    if v4 < v2 then
      (aI g 1 v1 v4).bind fun z1 =>
      if z1 = 32 then
        (M_Net_fieldEnd v1 (v4 + 1) v2 g).bind fun z2 =>
        c2 (vc g 102 v3 (M_Answer_readField v3 v1 (v4 + 1) z2 g)) fun z3 g4 =>
        if z3 = 0 then
          some (.inr (.inl (v4 + 1, g4)))
        else
          some (.inl (z2, v5 + 1, g4))
      else
        some (.inr (.inr (v4, g)))
    else
      some (.inr (.inr (v4, g)))
  else
    some (.inr (.inr (v4, g)))
set_option maxRecDepth 20000 in
theorem y_Net_takeServer_63 {L : Nat} {xs : Nat → Int32} {Q : Option Value → ab_H → Prop} {v0 : Nat} {v1 : Nat} {v2 : Int32} {v3 : Nat} {v4 : Int32} {v5 : Int32} {g : g_S} {out : (Int32 × Int32 × g_S) ⊕ ((Int32 × g_S) ⊕ (Int32 × g_S))} (e : b_Net_takeServer_63 v0 v1 v2 v3 v4 v5 g = some out) (c : cL_Net_takeServer_63 L xs Q v0 v1 v2 v3 out) : wp (ab_ext L xs) J_Net_takeServer 63 [(0, .ref v0), (1, .ref v1), (2, .int v2), (3, .ref v3), (4, .int v4), (5, .int v5)] [] (hp g) Q := by
  unfold b_Net_takeServer_63 at e
  refine wp_p (j := J_Net_takeServer) 2 (pc' := 66) (lv' := [(0, .ref v0), (1, .ref v1), (2, .int v2), (3, .ref v3), (4, .int v4), (5, .int v5)]) (st' := [.int v2, .int v5]) rfl ?_
  refine x_ge e rfl (fun e => ?_) (fun e => ?_)
  · refine wp_p (j := J_Net_takeServer) 2 (pc' := 72) (lv' := [(0, .ref v0), (1, .ref v1), (2, .int v2), (3, .ref v3), (4, .int v4), (5, .int v5)]) (st' := [.int v2, .int v4]) rfl ?_
    refine x_ge e rfl (fun e => ?_) (fun e => ?_)
    · refine wp_p (j := J_Net_takeServer) 2 (pc' := 78) (lv' := [(0, .ref v0), (1, .ref v1), (2, .int v2), (3, .ref v3), (4, .int v4), (5, .int v5)]) (st' := [.int v4, .ref v1]) rfl ?_
      refine x_aB e rfl (.inl rfl) rfl (fun z1 e => ?_)
      refine wp_p (j := J_Net_takeServer) 1 (pc' := 81) (lv' := [(0, .ref v0), (1, .ref v1), (2, .int v2), (3, .ref v3), (4, .int v4), (5, .int v5)]) (st' := [.int 32, .int z1]) rfl ?_
      refine x_ne e rfl (fun e => ?_) (fun e => ?_)
      · refine wp_p (j := J_Net_takeServer) 7 (pc' := 94) (lv' := [(6, .int (v4 + 1)), (0, .ref v0), (1, .ref v1), (2, .int v2), (3, .ref v3), (4, .int v4), (5, .int v5)]) (st' := [.int v2, .int (v4 + 1), .ref v1]) rfl ?_
        refine x_cs1 (As := [.ref v1, .int (v4 + 1), .int v2]) (rest := []) Value.int e rfl rfl rfl rfl rfl (fun h => d_Net_fieldEnd h ⟨rfl, rfl⟩) (fun z2 e => ?_)
        refine wp_p (j := J_Net_takeServer) 5 (pc' := 105) (lv' := [(4, .int z2), (6, .int (v4 + 1)), (0, .ref v0), (1, .ref v1), (2, .int v2), (3, .ref v3), (5, .int v5)]) (st' := [.int z2, .int (v4 + 1), .ref v1, .ref v3]) rfl ?_
        refine x_cv2 (As := [.ref v1, .int (v4 + 1), .int z2]) (rest := []) Value.int e rfl rfl rfl rfl rfl rfl (fun h => d_Answer_readField h ⟨rfl, rfl⟩) (fun z3 g4 e => ?_)
        refine z_ne e rfl (fun e => ?_) (fun e => ?_)
        · have e := Option.some.inj e; subst e; exact wp_lv (lv' := [(6, .int (v4 + 1))]) rfl ⟨rfl, trivial⟩ c
        · refine wp_p (j := J_Net_takeServer) 2 (pc' := 63) (lv' := [(5, .int (v5 + 1)), (4, .int z2), (6, .int (v4 + 1)), (0, .ref v0), (1, .ref v1), (2, .int v2), (3, .ref v3)]) (st' := []) rfl ?_
          have e := Option.some.inj e; subst e; exact wp_lv (lv' := [(0, .ref v0), (1, .ref v1), (2, .int v2), (3, .ref v3), (4, .int z2), (5, .int (v5 + 1))]) rfl ⟨rfl, rfl, rfl, rfl, rfl, rfl, trivial⟩ c
      · have e := Option.some.inj e; subst e; exact wp_lv (lv' := [(0, .ref v0), (1, .ref v1), (2, .int v2), (3, .ref v3), (4, .int v4)]) rfl ⟨rfl, rfl, rfl, rfl, rfl, trivial⟩ c
    · have e := Option.some.inj e; subst e; exact wp_lv (lv' := [(0, .ref v0), (1, .ref v1), (2, .int v2), (3, .ref v3), (4, .int v4)]) rfl ⟨rfl, rfl, rfl, rfl, rfl, trivial⟩ c
  · have e := Option.some.inj e; subst e; exact wp_lv (lv' := [(0, .ref v0), (1, .ref v1), (2, .int v2), (3, .ref v3), (4, .int v4)]) rfl ⟨rfl, rfl, rfl, rfl, rfl, trivial⟩ c
noncomputable def L_Net_takeServer_63 (v0 : Nat) (v1 : Nat) (v2 : Int32) (v3 : Nat) (v4 : Int32) (v5 : Int32) (g : g_S) : Option ((Int32 × g_S) ⊕ (Int32 × g_S)) := it (fun s : Int32 × Int32 × g_S => b_Net_takeServer_63 v0 v1 v2 v3 s.1 s.2.1 s.2.2) (v4, v5, g)
theorem l_Net_takeServer_63 {L : Nat} {xs : Nat → Int32} {Q : Option Value → ab_H → Prop} {v0 : Nat} {v1 : Nat} {v2 : Int32} {v3 : Nat} {v4 : Int32} {v5 : Int32} {g : g_S} {r : (Int32 × g_S) ⊕ (Int32 × g_S)} (e : L_Net_takeServer_63 v0 v1 v2 v3 v4 v5 g = some r) (c : cL_Net_takeServer_63 L xs Q v0 v1 v2 v3 (.inr r)) : wp (ab_ext L xs) J_Net_takeServer 63 [(0, .ref v0), (1, .ref v1), (2, .int v2), (3, .ref v3), (4, .int v4), (5, .int v5)] [] (hp g) Q :=
  it_wp (P := fun s : Int32 × Int32 × g_S => wp (ab_ext L xs) J_Net_takeServer 63 [(0, .ref v0), (1, .ref v1), (2, .int v2), (3, .ref v3), (4, .int s.1), (5, .int s.2.1)] [] (hp s.2.2) Q) (E := fun r => cL_Net_takeServer_63 L xs Q v0 v1 v2 v3 (.inr r)) (fun s out e c => y_Net_takeServer_63 e (by cases out <;> exact c)) e c
theorem L_Net_takeServer_63_eq (v0 : Nat) (v1 : Nat) (v2 : Int32) (v3 : Nat) (v4 : Int32) (v5 : Int32) (g : g_S) : L_Net_takeServer_63 v0 v1 v2 v3 v4 v5 g = itc (b_Net_takeServer_63 v0 v1 v2 v3 v4 v5 g) (fun s => L_Net_takeServer_63 v0 v1 v2 v3 s.1 s.2.1 s.2.2) := it_eq2 (fun s : Int32 × Int32 × g_S => b_Net_takeServer_63 v0 v1 v2 v3 s.1 s.2.1 s.2.2) (v4, v5, g)
noncomputable def k_Net_takeServer_124 (v0 : Nat) (v1 : Nat) (v2 : Int32) (v3 : Nat) (v4 : Int32) (g : g_S) : Option (Int32 × g_S) :=
  if v4 = v2 then
    some ((-1000) - v2, g)
  else
    if 1500 < ((v2 - v4) - 1) then
      some ((-1000) - ((v4 + 1) + 1500), g)
    else
      c2 (M_Arrays_copyOfRange v1 (v4 + 1) v2 g) fun z1 g2 =>
      (wR g2 102 v3 6 (some z1)).bind fun g3 =>
      c2 (vc g3 106 v0 (M_Net_putAnswer v0 v3 g3)) fun z4 g5 =>
      some (z4, g5)
set_option maxRecDepth 20000 in
theorem x_Net_takeServer_124 {L : Nat} {xs : Nat → Int32} {Q : Option Value → ab_H → Prop} {v0 : Nat} {v1 : Nat} {v2 : Int32} {v3 : Nat} {v4 : Int32} {g : g_S} {out : Int32 × g_S} (e : k_Net_takeServer_124 v0 v1 v2 v3 v4 g = some out) (c : Q (some (.int out.1)) (hp out.2)) : wp (ab_ext L xs) J_Net_takeServer 124 [(0, .ref v0), (1, .ref v1), (2, .int v2), (3, .ref v3), (4, .int v4)] [] (hp g) Q := by
  unfold k_Net_takeServer_124 at e
  refine wp_p (j := J_Net_takeServer) 2 (pc' := 127) (lv' := [(0, .ref v0), (1, .ref v1), (2, .int v2), (3, .ref v3), (4, .int v4)]) (st' := [.int v2, .int v4]) rfl ?_
  refine x_ne e rfl (fun e => ?_) (fun e => ?_)
  · refine wp_p (j := J_Net_takeServer) 3 (pc' := 135) (lv' := [(0, .ref v0), (1, .ref v1), (2, .int v2), (3, .ref v3), (4, .int v4)]) (st' := [.int ((-1000) - v2)]) rfl ?_
    have e := Option.some.inj e; subst e; exact wp_iret (ty := .int) rfl rfl rfl c
  · refine wp_p (j := J_Net_takeServer) 6 (pc' := 145) (lv' := [(0, .ref v0), (1, .ref v1), (2, .int v2), (3, .ref v3), (4, .int v4)]) (st' := [.int 1500, .int ((v2 - v4) - 1)]) rfl ?_
    refine x_le e rfl (fun e => ?_) (fun e => ?_)
    · refine wp_p (j := J_Net_takeServer) 7 (pc' := 160) (lv' := [(0, .ref v0), (1, .ref v1), (2, .int v2), (3, .ref v3), (4, .int v4)]) (st' := [.int ((-1000) - ((v4 + 1) + 1500))]) rfl ?_
      have e := Option.some.inj e; subst e; exact wp_iret (ty := .int) rfl rfl rfl c
    · refine wp_p (j := J_Net_takeServer) 6 (pc' := 168) (lv' := [(0, .ref v0), (1, .ref v1), (2, .int v2), (3, .ref v3), (4, .int v4)]) (st' := [.int v2, .int (v4 + 1), .ref v1, .ref v3]) rfl ?_
      refine x_cs2 (As := [.ref v1, .int (v4 + 1), .int v2]) (rest := [.ref v3]) Value.ref e rfl rfl rfl rfl rfl (fun h => d_Arrays_copyOfRange h ⟨rfl, rfl⟩) (fun z1 g2 e => ?_)
      refine x_pR (r := (some z1)) e rfl rfl fd_2_6 rfl (fun g3 e => ?_)
      refine wp_p (j := J_Net_takeServer) 2 (pc' := 176) (lv' := [(0, .ref v0), (1, .ref v1), (2, .int v2), (3, .ref v3), (4, .int v4)]) (st' := [.ref v3, .ref v0]) rfl ?_
      refine x_cv2 (As := [.ref v3]) (rest := []) Value.int e rfl rfl rfl rfl rfl rfl (fun h => d_Net_putAnswer h ⟨rfl, rfl⟩) (fun z4 g5 e => ?_)
      have e := Option.some.inj e; subst e; exact wp_iret (ty := .int) rfl rfl rfl c
noncomputable def M_Net_takeServer (v0 : Nat) (v1 : Nat) (v2 : Int32) (g : g_S) : Option (Int32 × g_S) :=
  c2 (nO g 102) fun z1 g2 =>
  (M_Answer_init z1 g2).bind fun g3 =>
  (M_Net_fieldEnd v1 0 v2 g3).bind fun z4 =>
  (M_Bytes_stands 1000005 v1 0 z4 g3).bind fun z5 =>
  if z5 = 0 then
    some ((-1000), g3)
  else
    (rQ g3 102 z1 0).bind fun z6 =>
    (rQ g3 106 v0 13).bind fun z7 =>
    c2 (vc g3 101 z6 (M_Address_read z6 v1 0 z4 z7 g3)) fun z8 g9 =>
    if z8 = 0 then
      some ((-1000), g9)
    else
      (rQ g9 102 z1 0).bind fun z10 =>
      (vc g9 101 z10 (M_Address_hasMark z10 g9)).bind fun z11 =>
      if z11 = 0 then
        (L_Net_takeServer_63 v0 v1 v2 z1 z4 0 g9).bind <|
          us (u2 fun z14 g15 =>
          some ((-1000) - z14, g15))
          (u2 fun z16 g17 =>
          k_Net_takeServer_124 v0 v1 v2 z1 z16 g17)
      else
        some ((-1000), g9)
set_option maxRecDepth 20000 in
theorem d_Net_takeServer {L : Nat} {xs : Nat → Int32} {Q : Option Value → ab_H → Prop} {v0 : Nat} {v1 : Nat} {v2 : Int32} {g : g_S} {out : Int32 × g_S} (e : M_Net_takeServer v0 v1 v2 g = some out) (c : Q (some (.int out.1)) (hp out.2)) : mw (ab_ext L xs) J_Net_takeServer [.ref v0, .ref v1, .int v2] (hp g) Q := by
  unfold M_Net_takeServer at e
  refine x_nO e rfl rfl rfl (fun z1 g2 e => ?_)
  refine wp_p (j := J_Net_takeServer) 1 (pc' := 4) (lv' := [(0, .ref v0), (1, .ref v1), (2, .int v2)]) (st' := [.ref z1, .ref z1]) rfl ?_
  refine x_ci0 (As := []) (rest := [.ref z1]) e rfl rfl rfl rfl rfl (fun h => d_Answer_init h ⟨rfl, rfl⟩) (fun g3 e => ?_)
  refine wp_p (j := J_Net_takeServer) 4 (pc' := 11) (lv' := [(3, .ref z1), (0, .ref v0), (1, .ref v1), (2, .int v2)]) (st' := [.int v2, .int 0, .ref v1]) rfl ?_
  refine x_cs1 (As := [.ref v1, .int 0, .int v2]) (rest := []) Value.int e rfl rfl rfl rfl rfl (fun h => d_Net_fieldEnd h ⟨rfl, rfl⟩) (fun z4 e => ?_)
  refine wp_p (j := J_Net_takeServer) 1 (pc' := 16) (lv' := [(4, .int z4), (3, .ref z1), (0, .ref v0), (1, .ref v1), (2, .int v2)]) (st' := []) rfl ?_
  refine x_ls rfl rfl ?_
  refine wp_p (j := J_Net_takeServer) 3 (pc' := 22) (lv' := [(4, .int z4), (3, .ref z1), (0, .ref v0), (1, .ref v1), (2, .int v2)]) (st' := [.int z4, .int 0, .ref v1, .ref 1000005]) rfl ?_
  refine x_cs1 (As := [.ref 1000005, .ref v1, .int 0, .int z4]) (rest := []) Value.int e rfl rfl rfl rfl rfl (fun h => d_Bytes_stands h ⟨rfl, rfl⟩) (fun z5 e => ?_)
  refine z_eq e rfl (fun e => ?_) (fun e => ?_)
  · refine wp_p (j := J_Net_takeServer) 1 (pc' := 59) (lv' := [(4, .int z4), (3, .ref z1), (0, .ref v0), (1, .ref v1), (2, .int v2)]) (st' := [.int (-1000)]) rfl ?_
    have e := Option.some.inj e; subst e; exact wp_iret (ty := .int) rfl rfl rfl c
  · refine wp_p (j := J_Net_takeServer) 1 (pc' := 29) (lv' := [(4, .int z4), (3, .ref z1), (0, .ref v0), (1, .ref v1), (2, .int v2)]) (st' := [.ref z1]) rfl ?_
    refine x_gQ e rfl rfl fd_2_0 rfl (fun z6 e => ?_)
    refine wp_p (j := J_Net_takeServer) 4 (pc' := 37) (lv' := [(4, .int z4), (3, .ref z1), (0, .ref v0), (1, .ref v1), (2, .int v2)]) (st' := [.ref v0, .int z4, .int 0, .ref v1, .ref z6]) rfl ?_
    refine x_gQ e rfl rfl fd_6_13 rfl (fun z7 e => ?_)
    refine x_cv2 (As := [.ref v1, .int 0, .int z4, .ref z7]) (rest := []) Value.int e rfl rfl rfl rfl rfl rfl (fun h => d_Address_read h ⟨rfl, rfl⟩) (fun z8 g9 e => ?_)
    refine z_eq e rfl (fun e => ?_) (fun e => ?_)
    · refine wp_p (j := J_Net_takeServer) 1 (pc' := 59) (lv' := [(4, .int z4), (3, .ref z1), (0, .ref v0), (1, .ref v1), (2, .int v2)]) (st' := [.int (-1000)]) rfl ?_
      have e := Option.some.inj e; subst e; exact wp_iret (ty := .int) rfl rfl rfl c
    · refine wp_p (j := J_Net_takeServer) 1 (pc' := 47) (lv' := [(4, .int z4), (3, .ref z1), (0, .ref v0), (1, .ref v1), (2, .int v2)]) (st' := [.ref z1]) rfl ?_
      refine x_gQ e rfl rfl fd_2_0 rfl (fun z10 e => ?_)
      refine x_cv1 (As := []) (rest := []) Value.int e rfl rfl rfl rfl rfl rfl (fun h => d_Address_hasMark h ⟨rfl, rfl⟩) (fun z11 e => ?_)
      refine z_eq e rfl (fun e => ?_) (fun e => ?_)
      · refine wp_p (j := J_Net_takeServer) 2 (pc' := 63) (lv' := [(5, .int 0), (4, .int z4), (3, .ref z1), (0, .ref v0), (1, .ref v1), (2, .int v2)]) (st' := []) rfl ?_
        obtain ⟨s12, h13, e⟩ := bd e
        refine wp_lv (lv' := [(0, .ref v0), (1, .ref v1), (2, .int v2), (3, .ref z1), (4, .int z4), (5, .int 0)]) rfl ⟨rfl, rfl, rfl, rfl, rfl, rfl, trivial⟩ ?_
        refine l_Net_takeServer_63 h13 ?_
        rcases s12 with ⟨z14, g15⟩ | ⟨z16, g17⟩
        · replace e := (u2_e (us_l e))
          show wp (ab_ext L xs) J_Net_takeServer 111 [(6, .int z14)] [] (hp g15) Q
          refine wp_p (j := J_Net_takeServer) 3 (pc' := 117) (lv' := [(6, .int z14)]) (st' := [.int ((-1000) - z14)]) rfl ?_
          have e := Option.some.inj e; subst e; exact wp_iret (ty := .int) rfl rfl rfl c
        · replace e := (u2_e (us_r e))
          show wp (ab_ext L xs) J_Net_takeServer 124 [(0, .ref v0), (1, .ref v1), (2, .int v2), (3, .ref z1), (4, .int z16)] [] (hp g17) Q
          exact wp_lv (lv' := [(0, .ref v0), (1, .ref v1), (2, .int v2), (3, .ref z1), (4, .int z16)]) rfl ⟨rfl, rfl, rfl, rfl, rfl, trivial⟩ (x_Net_takeServer_124 e c)
      · refine wp_p (j := J_Net_takeServer) 1 (pc' := 59) (lv' := [(4, .int z4), (3, .ref z1), (0, .ref v0), (1, .ref v1), (2, .int v2)]) (st' := [.int (-1000)]) rfl ?_
        have e := Option.some.inj e; subst e; exact wp_iret (ty := .int) rfl rfl rfl c
noncomputable def k_H_server_31 (v0 : Nat) (v1 : Int32) (g : g_S) : Option (Int32 × g_S) :=
  (rQ g 111 v0 0).bind fun z1 =>
  (vc g 104 z1 (M_Bytes_clear z1 g)).bind fun g2 =>
  some (v1, g2)
set_option maxRecDepth 20000 in
theorem x_H_server_31 {L : Nat} {xs : Nat → Int32} {Q : Option Value → ab_H → Prop} {v0 : Nat} {v1 : Int32} {g : g_S} {out : Int32 × g_S} (e : k_H_server_31 v0 v1 g = some out) (c : Q (some (.int out.1)) (hp out.2)) : wp (ab_ext L xs) J_H_server 31 [(0, .ref v0), (1, .int v1)] [] (hp g) Q := by
  unfold k_H_server_31 at e
  refine wp_p (j := J_H_server) 1 (pc' := 32) (lv' := [(0, .ref v0), (1, .int v1)]) (st' := [.ref v0]) rfl ?_
  refine x_gQ e rfl rfl fd_11_0 rfl (fun z1 e => ?_)
  refine x_cv0 (As := []) (rest := []) e rfl rfl rfl rfl rfl rfl (fun h => d_Bytes_clear h ⟨rfl, rfl⟩) (fun g2 e => ?_)
  refine wp_p (j := J_H_server) 1 (pc' := 39) (lv' := [(0, .ref v0), (1, .int v1)]) (st' := [.int v1]) rfl ?_
  have e := Option.some.inj e; subst e; exact wp_iret (ty := .int) rfl rfl rfl c
noncomputable def M_H_server (v0 : Nat) (g : g_S) : Option (Int32 × g_S) :=
  (vc g 111 v0 (M_H_wrongByte v0 g)).bind fun z1 =>
  if z1 = 0 then
    (rQ g 111 v0 3).bind fun z2 =>
    (rQ g 111 v0 0).bind fun z3 =>
    (rQ g 104 z3 1).bind fun z4 =>
    (rQ g 111 v0 0).bind fun z5 =>
    (rI g 104 z5 2).bind fun z6 =>
    c2 (vc g 106 z2 (M_Net_takeServer z2 z4 z6 g)) fun z7 g8 =>
    k_H_server_31 v0 z7 g8
  else
    k_H_server_31 v0 z1 g
set_option maxRecDepth 20000 in
theorem d_H_server {L : Nat} {xs : Nat → Int32} {Q : Option Value → ab_H → Prop} {v0 : Nat} {g : g_S} {out : Int32 × g_S} (e : M_H_server v0 g = some out) (c : Q (some (.int out.1)) (hp out.2)) : mw (ab_ext L xs) J_H_server [.ref v0] (hp g) Q := by
  unfold M_H_server at e
  refine wp_p (j := J_H_server) 1 (pc' := 1) (lv' := [(0, .ref v0)]) (st' := [.ref v0]) rfl ?_
  refine x_cv1 (As := []) (rest := []) Value.int e rfl rfl rfl rfl rfl rfl (fun h => d_H_wrongByte h ⟨rfl, rfl⟩) (fun z1 e => ?_)
  refine wp_p (j := J_H_server) 2 (pc' := 6) (lv' := [(1, .int z1), (0, .ref v0)]) (st' := [.int z1]) rfl ?_
  refine z_ne e rfl (fun e => ?_) (fun e => ?_)
  · refine wp_p (j := J_H_server) 1 (pc' := 10) (lv' := [(1, .int z1), (0, .ref v0)]) (st' := [.ref v0]) rfl ?_
    refine x_gQ e rfl rfl fd_11_3 rfl (fun z2 e => ?_)
    refine wp_p (j := J_H_server) 1 (pc' := 14) (lv' := [(1, .int z1), (0, .ref v0)]) (st' := [.ref v0, .ref z2]) rfl ?_
    refine x_gQ e rfl rfl fd_11_0 rfl (fun z3 e => ?_)
    refine x_gQ e rfl rfl fd_4_1 rfl (fun z4 e => ?_)
    refine wp_p (j := J_H_server) 1 (pc' := 21) (lv' := [(1, .int z1), (0, .ref v0)]) (st' := [.ref v0, .ref z4, .ref z2]) rfl ?_
    refine x_gQ e rfl rfl fd_11_0 rfl (fun z5 e => ?_)
    refine x_gI e rfl rfl fd_4_2 rfl (fun z6 e => ?_)
    refine x_cv2 (As := [.ref z4, .int z6]) (rest := []) Value.int e rfl rfl rfl rfl rfl rfl (fun h => d_Net_takeServer h ⟨rfl, rfl⟩) (fun z7 g8 e => ?_)
    refine wp_p (j := J_H_server) 1 (pc' := 31) (lv' := [(1, .int z7), (0, .ref v0)]) (st' := []) rfl ?_
    exact wp_lv (lv' := [(0, .ref v0), (1, .int z7)]) rfl ⟨rfl, rfl, trivial⟩ (x_H_server_31 e c)
  · exact wp_lv (lv' := [(0, .ref v0), (1, .int z1)]) rfl ⟨rfl, rfl, trivial⟩ (x_H_server_31 e c)
noncomputable def M_Acts_begin (v0 : Nat) (g : g_S) : Option g_S :=
  (wI g 100 v0 9 200).bind fun g1 =>
  (wI g1 100 v0 18 0).bind fun g2 =>
  (rQ g2 100 v0 11).bind fun z3 =>
  (vc g2 104 z3 (M_Bytes_clear z3 g2)).bind fun g4 =>
  (wI g4 100 v0 12 0).bind fun g5 =>
  (wI g5 100 v0 15 0).bind fun g6 =>
  (wI g6 100 v0 16 0).bind fun g7 =>
  some g7
set_option maxRecDepth 20000 in
theorem d_Acts_begin {L : Nat} {xs : Nat → Int32} {Q : Option Value → ab_H → Prop} {v0 : Nat} {g : g_S} {out : g_S} (e : M_Acts_begin v0 g = some out) (c : Q none (hp out)) : mw (ab_ext L xs) J_Acts_begin [.ref v0] (hp g) Q := by
  unfold M_Acts_begin at e
  refine wp_p (j := J_Acts_begin) 2 (pc' := 4) (lv' := [(0, .ref v0)]) (st' := [.int 200, .ref v0]) rfl ?_
  refine x_pI e rfl rfl fw_0_9 rfl (fun g1 e => ?_)
  refine wp_p (j := J_Acts_begin) 2 (pc' := 9) (lv' := [(0, .ref v0)]) (st' := [.int 0, .ref v0]) rfl ?_
  refine x_pI e rfl rfl fw_0_18 rfl (fun g2 e => ?_)
  refine wp_p (j := J_Acts_begin) 1 (pc' := 13) (lv' := [(0, .ref v0)]) (st' := [.ref v0]) rfl ?_
  refine x_gQ e rfl rfl fd_0_11 rfl (fun z3 e => ?_)
  refine x_cv0 (As := []) (rest := []) e rfl rfl rfl rfl rfl rfl (fun h => d_Bytes_clear h ⟨rfl, rfl⟩) (fun g4 e => ?_)
  refine wp_p (j := J_Acts_begin) 2 (pc' := 21) (lv' := [(0, .ref v0)]) (st' := [.int 0, .ref v0]) rfl ?_
  refine x_pI e rfl rfl fw_0_12 rfl (fun g5 e => ?_)
  refine wp_p (j := J_Acts_begin) 2 (pc' := 26) (lv' := [(0, .ref v0)]) (st' := [.int 0, .ref v0]) rfl ?_
  refine x_pI e rfl rfl fw_0_15 rfl (fun g6 e => ?_)
  refine wp_p (j := J_Acts_begin) 2 (pc' := 31) (lv' := [(0, .ref v0)]) (st' := [.int 0, .ref v0]) rfl ?_
  refine x_pI e rfl rfl fw_0_16 rfl (fun g7 e => ?_)
  have e := Option.some.inj e; subst e; exact wp_vret rfl rfl c
def cL_Net_pushHistory_20 (L : Nat) (xs : Nat → Int32) (Q : Option Value → ab_H → Prop) (v0 : Nat) (v1 : Nat) (out : (Int32 × g_S) ⊕ (g_S)) : Prop := match out with
  | .inl s => wp (ab_ext L xs) J_Net_pushHistory 20 [(0, .ref v0), (1, .ref v1), (2, .int s.1)] [] (hp s.2) Q
  | .inr s => wp (ab_ext L xs) J_Net_pushHistory 48 [(0, .ref v0), (1, .ref v1)] [] (hp s) Q
noncomputable def b_Net_pushHistory_20 (v0 : Nat) (v1 : Nat) (v2 : Int32) (g : g_S) : Option ((Int32 × g_S) ⊕ (g_S)) :=
  if (v2 + 1) < 20 then
    (rQ g 106 v0 17).bind fun z1 =>
    (rQ g 106 v0 17).bind fun z2 =>
    (aQ g 6 z2 (v2 + 1)).bind fun z3 =>
    (sQ g 6 z1 v2 z3).bind fun g4 =>
    some (.inl (v2 + 1, g4))
  else
    some (.inr g)
set_option maxRecDepth 20000 in
theorem y_Net_pushHistory_20 {L : Nat} {xs : Nat → Int32} {Q : Option Value → ab_H → Prop} {v0 : Nat} {v1 : Nat} {v2 : Int32} {g : g_S} {out : (Int32 × g_S) ⊕ (g_S)} (e : b_Net_pushHistory_20 v0 v1 v2 g = some out) (c : cL_Net_pushHistory_20 L xs Q v0 v1 out) : wp (ab_ext L xs) J_Net_pushHistory 20 [(0, .ref v0), (1, .ref v1), (2, .int v2)] [] (hp g) Q := by
  unfold b_Net_pushHistory_20 at e
  refine wp_p (j := J_Net_pushHistory) 4 (pc' := 25) (lv' := [(0, .ref v0), (1, .ref v1), (2, .int v2)]) (st' := [.int 20, .int (v2 + 1)]) rfl ?_
  refine x_ge e rfl (fun e => ?_) (fun e => ?_)
  · refine wp_p (j := J_Net_pushHistory) 1 (pc' := 29) (lv' := [(0, .ref v0), (1, .ref v1), (2, .int v2)]) (st' := [.ref v0]) rfl ?_
    refine x_gQ e rfl rfl fd_6_17 rfl (fun z1 e => ?_)
    refine wp_p (j := J_Net_pushHistory) 2 (pc' := 34) (lv' := [(0, .ref v0), (1, .ref v1), (2, .int v2)]) (st' := [.ref v0, .int v2, .ref z1]) rfl ?_
    refine x_gQ e rfl rfl fd_6_17 rfl (fun z2 e => ?_)
    refine wp_p (j := J_Net_pushHistory) 3 (pc' := 40) (lv' := [(0, .ref v0), (1, .ref v1), (2, .int v2)]) (st' := [.int (v2 + 1), .ref z2, .int v2, .ref z1]) rfl ?_
    refine x_aQ e rfl rfl rfl (fun z3 e => ?_)
    refine x_sQ e rfl rfl rfl (fun g4 e => ?_)
    refine wp_p (j := J_Net_pushHistory) 2 (pc' := 20) (lv' := [(2, .int (v2 + 1)), (0, .ref v0), (1, .ref v1)]) (st' := []) rfl ?_
    have e := Option.some.inj e; subst e; exact wp_lv (lv' := [(0, .ref v0), (1, .ref v1), (2, .int (v2 + 1))]) rfl ⟨rfl, rfl, rfl, trivial⟩ c
  · have e := Option.some.inj e; subst e; exact wp_lv (lv' := [(0, .ref v0), (1, .ref v1)]) rfl ⟨rfl, rfl, trivial⟩ c
noncomputable def L_Net_pushHistory_20 (v0 : Nat) (v1 : Nat) (v2 : Int32) (g : g_S) : Option (g_S) := it (fun s : Int32 × g_S => b_Net_pushHistory_20 v0 v1 s.1 s.2) (v2, g)
theorem l_Net_pushHistory_20 {L : Nat} {xs : Nat → Int32} {Q : Option Value → ab_H → Prop} {v0 : Nat} {v1 : Nat} {v2 : Int32} {g : g_S} {r : g_S} (e : L_Net_pushHistory_20 v0 v1 v2 g = some r) (c : cL_Net_pushHistory_20 L xs Q v0 v1 (.inr r)) : wp (ab_ext L xs) J_Net_pushHistory 20 [(0, .ref v0), (1, .ref v1), (2, .int v2)] [] (hp g) Q :=
  it_wp (P := fun s : Int32 × g_S => wp (ab_ext L xs) J_Net_pushHistory 20 [(0, .ref v0), (1, .ref v1), (2, .int s.1)] [] (hp s.2) Q) (E := fun r => cL_Net_pushHistory_20 L xs Q v0 v1 (.inr r)) (fun s out e c => y_Net_pushHistory_20 e (by cases out <;> exact c)) e c
theorem L_Net_pushHistory_20_eq (v0 : Nat) (v1 : Nat) (v2 : Int32) (g : g_S) : L_Net_pushHistory_20 v0 v1 v2 g = itc (b_Net_pushHistory_20 v0 v1 v2 g) (fun s => L_Net_pushHistory_20 v0 v1 s.1 s.2) := it_eq2 (fun s : Int32 × g_S => b_Net_pushHistory_20 v0 v1 s.1 s.2) (v2, g)
noncomputable def k_Net_pushHistory_69 (v0 : Nat) (g : g_S) : Option g_S :=
  (rQ g 106 v0 17).bind fun z1 =>
  (rI g 106 v0 19).bind fun z2 =>
  (aQ g 6 z1 z2).bind fun z3 =>
  (rQ g 106 v0 13).bind fun z4 =>
  (vc g 101 z3 (M_Address_copy z3 z4 g)).bind fun g5 =>
  (rI g5 106 v0 19).bind fun z6 =>
  (wI g5 106 v0 18 (z6 + 1)).bind fun g7 =>
  some g7
set_option maxRecDepth 20000 in
theorem x_Net_pushHistory_69 {L : Nat} {xs : Nat → Int32} {Q : Option Value → ab_H → Prop} {v0 : Nat} {g : g_S} {out : g_S} (e : k_Net_pushHistory_69 v0 g = some out) (c : Q none (hp out)) : wp (ab_ext L xs) J_Net_pushHistory 69 [(0, .ref v0)] [] (hp g) Q := by
  unfold k_Net_pushHistory_69 at e
  refine wp_p (j := J_Net_pushHistory) 1 (pc' := 70) (lv' := [(0, .ref v0)]) (st' := [.ref v0]) rfl ?_
  refine x_gQ e rfl rfl fd_6_17 rfl (fun z1 e => ?_)
  refine wp_p (j := J_Net_pushHistory) 1 (pc' := 74) (lv' := [(0, .ref v0)]) (st' := [.ref v0, .ref z1]) rfl ?_
  refine x_gI e rfl rfl fd_6_19 rfl (fun z2 e => ?_)
  refine x_aQ e rfl rfl rfl (fun z3 e => ?_)
  refine wp_p (j := J_Net_pushHistory) 1 (pc' := 79) (lv' := [(0, .ref v0)]) (st' := [.ref v0, .ref z3]) rfl ?_
  refine x_gQ e rfl rfl fd_6_13 rfl (fun z4 e => ?_)
  refine x_cv0 (As := [.ref z4]) (rest := []) e rfl rfl rfl rfl rfl rfl (fun h => d_Address_copy h ⟨rfl, rfl⟩) (fun g5 e => ?_)
  refine wp_p (j := J_Net_pushHistory) 2 (pc' := 87) (lv' := [(0, .ref v0)]) (st' := [.ref v0, .ref v0]) rfl ?_
  refine x_gI e rfl rfl fd_6_19 rfl (fun z6 e => ?_)
  refine wp_p (j := J_Net_pushHistory) 2 (pc' := 92) (lv' := [(0, .ref v0)]) (st' := [.int (z6 + 1), .ref v0]) rfl ?_
  refine x_pI e rfl rfl fw_6_18 rfl (fun g7 e => ?_)
  have e := Option.some.inj e; subst e; exact wp_vret rfl rfl c
noncomputable def M_Net_pushHistory (v0 : Nat) (g : g_S) : Option g_S :=
  (rI g 106 v0 19).bind fun z1 =>
  if (z1 + 1) = 20 then
    (rQ g 106 v0 17).bind fun z2 =>
    (aQ g 6 z2 0).bind fun z3 =>
    (L_Net_pushHistory_20 v0 z3 0 g).bind <| fun g6 =>
    (rQ g6 106 v0 17).bind fun z7 =>
    (sQ g6 6 z7 19 z3).bind fun g8 =>
    k_Net_pushHistory_69 v0 g8
  else
    (rI g 106 v0 19).bind fun z9 =>
    (wI g 106 v0 19 (z9 + 1)).bind fun g10 =>
    k_Net_pushHistory_69 v0 g10
set_option maxRecDepth 20000 in
theorem d_Net_pushHistory {L : Nat} {xs : Nat → Int32} {Q : Option Value → ab_H → Prop} {v0 : Nat} {g : g_S} {out : g_S} (e : M_Net_pushHistory v0 g = some out) (c : Q none (hp out)) : mw (ab_ext L xs) J_Net_pushHistory [.ref v0] (hp g) Q := by
  unfold M_Net_pushHistory at e
  refine wp_p (j := J_Net_pushHistory) 1 (pc' := 1) (lv' := [(0, .ref v0)]) (st' := [.ref v0]) rfl ?_
  refine x_gI e rfl rfl fd_6_19 rfl (fun z1 e => ?_)
  refine wp_p (j := J_Net_pushHistory) 3 (pc' := 8) (lv' := [(0, .ref v0)]) (st' := [.int 20, .int (z1 + 1)]) rfl ?_
  refine x_ne e rfl (fun e => ?_) (fun e => ?_)
  · refine wp_p (j := J_Net_pushHistory) 1 (pc' := 12) (lv' := [(0, .ref v0)]) (st' := [.ref v0]) rfl ?_
    refine x_gQ e rfl rfl fd_6_17 rfl (fun z2 e => ?_)
    refine wp_p (j := J_Net_pushHistory) 1 (pc' := 16) (lv' := [(0, .ref v0)]) (st' := [.int 0, .ref z2]) rfl ?_
    refine x_aQ e rfl rfl rfl (fun z3 e => ?_)
    refine wp_p (j := J_Net_pushHistory) 3 (pc' := 20) (lv' := [(2, .int 0), (1, .ref z3), (0, .ref v0)]) (st' := []) rfl ?_
    obtain ⟨g6, h5, e⟩ := bd e
    refine wp_lv (lv' := [(0, .ref v0), (1, .ref z3), (2, .int 0)]) rfl ⟨rfl, rfl, rfl, trivial⟩ ?_
    refine l_Net_pushHistory_20 h5 ?_
    show wp (ab_ext L xs) J_Net_pushHistory 48 [(0, .ref v0), (1, .ref z3)] [] (hp g6) Q
    refine wp_p (j := J_Net_pushHistory) 1 (pc' := 49) (lv' := [(0, .ref v0), (1, .ref z3)]) (st' := [.ref v0]) rfl ?_
    refine x_gQ e rfl rfl fd_6_17 rfl (fun z7 e => ?_)
    refine wp_p (j := J_Net_pushHistory) 2 (pc' := 55) (lv' := [(0, .ref v0), (1, .ref z3)]) (st' := [.ref z3, .int 19, .ref z7]) rfl ?_
    refine x_sQ e rfl rfl rfl (fun g8 e => ?_)
    refine wp_p (j := J_Net_pushHistory) 1 (pc' := 69) (lv' := [(0, .ref v0), (1, .ref z3)]) (st' := []) rfl ?_
    exact wp_lv (lv' := [(0, .ref v0)]) rfl ⟨rfl, trivial⟩ (x_Net_pushHistory_69 e c)
  · refine wp_p (j := J_Net_pushHistory) 2 (pc' := 61) (lv' := [(0, .ref v0)]) (st' := [.ref v0, .ref v0]) rfl ?_
    refine x_gI e rfl rfl fd_6_19 rfl (fun z9 e => ?_)
    refine wp_p (j := J_Net_pushHistory) 2 (pc' := 66) (lv' := [(0, .ref v0)]) (st' := [.int (z9 + 1), .ref v0]) rfl ?_
    refine x_pI e rfl rfl fw_6_19 rfl (fun g10 e => ?_)
    exact wp_lv (lv' := [(0, .ref v0)]) rfl ⟨rfl, trivial⟩ (x_Net_pushHistory_69 e c)
noncomputable def k_Net_setOff_42 (v0 : Nat) (g : g_S) : Option g_S :=
  (wI g 106 v0 16 1).bind fun g1 =>
  some g1
set_option maxRecDepth 20000 in
theorem x_Net_setOff_42 {L : Nat} {xs : Nat → Int32} {Q : Option Value → ab_H → Prop} {v0 : Nat} {g : g_S} {out : g_S} (e : k_Net_setOff_42 v0 g = some out) (c : Q none (hp out)) : wp (ab_ext L xs) J_Net_setOff 42 [(0, .ref v0)] [] (hp g) Q := by
  unfold k_Net_setOff_42 at e
  refine wp_p (j := J_Net_setOff) 2 (pc' := 44) (lv' := [(0, .ref v0)]) (st' := [.int 1, .ref v0]) rfl ?_
  refine x_pI e rfl rfl fw_6_16 rfl (fun g1 e => ?_)
  have e := Option.some.inj e; subst e; exact wp_vret rfl rfl c
noncomputable def M_Net_setOff (v0 : Nat) (g : g_S) : Option g_S :=
  (rQ g 106 v0 14).bind fun z1 =>
  (vc g 101 z1 (M_Address_hasMark z1 g)).bind fun z2 =>
  if z2 = 0 then
    k_Net_setOff_42 v0 g
  else
    (rQ g 106 v0 14).bind fun z3 =>
    (rQ g 106 v0 13).bind fun z4 =>
    (vc g 101 z3 (M_Address_isAt z3 z4 g)).bind fun z5 =>
    if z5 = 0 then
      k_Net_setOff_42 v0 g
    else
      (rQ g 106 v0 13).bind fun z6 =>
      (rQ g 106 v0 14).bind fun z7 =>
      (vc g 101 z6 (M_Address_copy z6 z7 g)).bind fun g8 =>
      (vc g8 106 v0 (M_Net_pushHistory v0 g8)).bind fun g9 =>
      some g9
set_option maxRecDepth 20000 in
theorem d_Net_setOff {L : Nat} {xs : Nat → Int32} {Q : Option Value → ab_H → Prop} {v0 : Nat} {g : g_S} {out : g_S} (e : M_Net_setOff v0 g = some out) (c : Q none (hp out)) : mw (ab_ext L xs) J_Net_setOff [.ref v0] (hp g) Q := by
  unfold M_Net_setOff at e
  refine wp_p (j := J_Net_setOff) 1 (pc' := 1) (lv' := [(0, .ref v0)]) (st' := [.ref v0]) rfl ?_
  refine x_gQ e rfl rfl fd_6_14 rfl (fun z1 e => ?_)
  refine x_cv1 (As := []) (rest := []) Value.int e rfl rfl rfl rfl rfl rfl (fun h => d_Address_hasMark h ⟨rfl, rfl⟩) (fun z2 e => ?_)
  refine z_eq e rfl (fun e => ?_) (fun e => ?_)
  · exact wp_lv (lv' := [(0, .ref v0)]) rfl ⟨rfl, trivial⟩ (x_Net_setOff_42 e c)
  · refine wp_p (j := J_Net_setOff) 1 (pc' := 11) (lv' := [(0, .ref v0)]) (st' := [.ref v0]) rfl ?_
    refine x_gQ e rfl rfl fd_6_14 rfl (fun z3 e => ?_)
    refine wp_p (j := J_Net_setOff) 1 (pc' := 15) (lv' := [(0, .ref v0)]) (st' := [.ref v0, .ref z3]) rfl ?_
    refine x_gQ e rfl rfl fd_6_13 rfl (fun z4 e => ?_)
    refine x_cv1 (As := [.ref z4]) (rest := []) Value.int e rfl rfl rfl rfl rfl rfl (fun h => d_Address_isAt h ⟨rfl, rfl⟩) (fun z5 e => ?_)
    refine z_eq e rfl (fun e => ?_) (fun e => ?_)
    · exact wp_lv (lv' := [(0, .ref v0)]) rfl ⟨rfl, trivial⟩ (x_Net_setOff_42 e c)
    · refine wp_p (j := J_Net_setOff) 1 (pc' := 25) (lv' := [(0, .ref v0)]) (st' := [.ref v0]) rfl ?_
      refine x_gQ e rfl rfl fd_6_13 rfl (fun z6 e => ?_)
      refine wp_p (j := J_Net_setOff) 1 (pc' := 29) (lv' := [(0, .ref v0)]) (st' := [.ref v0, .ref z6]) rfl ?_
      refine x_gQ e rfl rfl fd_6_14 rfl (fun z7 e => ?_)
      refine x_cv0 (As := [.ref z7]) (rest := []) e rfl rfl rfl rfl rfl rfl (fun h => d_Address_copy h ⟨rfl, rfl⟩) (fun g8 e => ?_)
      refine wp_p (j := J_Net_setOff) 1 (pc' := 36) (lv' := [(0, .ref v0)]) (st' := [.ref v0]) rfl ?_
      refine x_cv0 (As := []) (rest := []) e rfl rfl rfl rfl rfl rfl (fun h => d_Net_pushHistory h ⟨rfl, rfl⟩) (fun g9 e => ?_)
      refine wp_p (j := J_Net_setOff) 1 (pc' := 47) (lv' := [(0, .ref v0)]) (st' := []) rfl ?_
      have e := Option.some.inj e; subst e; exact wp_vret rfl rfl c
noncomputable def M_Net_aim (v0 : Nat) (v1 : Nat) (v2 : Int32) (v3 : Int32) (g : g_S) : Option (Int32 × g_S) :=
  (rQ g 106 v0 14).bind fun z1 =>
  (rQ g 106 v0 13).bind fun z2 =>
  c2 (vc g 101 z1 (M_Address_read z1 v1 v2 v3 z2 g)) fun z3 g4 =>
  if z3 = 0 then
    some (0, g4)
  else
    (vc g4 106 v0 (M_Net_setOff v0 g4)).bind fun g5 =>
    some (1, g5)
set_option maxRecDepth 20000 in
theorem d_Net_aim {L : Nat} {xs : Nat → Int32} {Q : Option Value → ab_H → Prop} {v0 : Nat} {v1 : Nat} {v2 : Int32} {v3 : Int32} {g : g_S} {out : Int32 × g_S} (e : M_Net_aim v0 v1 v2 v3 g = some out) (c : Q (some (.int out.1)) (hp out.2)) : mw (ab_ext L xs) J_Net_aim [.ref v0, .ref v1, .int v2, .int v3] (hp g) Q := by
  unfold M_Net_aim at e
  refine wp_p (j := J_Net_aim) 1 (pc' := 1) (lv' := [(0, .ref v0), (1, .ref v1), (2, .int v2), (3, .int v3)]) (st' := [.ref v0]) rfl ?_
  refine x_gQ e rfl rfl fd_6_14 rfl (fun z1 e => ?_)
  refine wp_p (j := J_Net_aim) 4 (pc' := 8) (lv' := [(0, .ref v0), (1, .ref v1), (2, .int v2), (3, .int v3)]) (st' := [.ref v0, .int v3, .int v2, .ref v1, .ref z1]) rfl ?_
  refine x_gQ e rfl rfl fd_6_13 rfl (fun z2 e => ?_)
  refine x_cv2 (As := [.ref v1, .int v2, .int v3, .ref z2]) (rest := []) Value.int e rfl rfl rfl rfl rfl rfl (fun h => d_Address_read h ⟨rfl, rfl⟩) (fun z3 g4 e => ?_)
  refine z_ne e rfl (fun e => ?_) (fun e => ?_)
  · refine wp_p (j := J_Net_aim) 1 (pc' := 18) (lv' := [(0, .ref v0), (1, .ref v1), (2, .int v2), (3, .int v3)]) (st' := [.int 0]) rfl ?_
    have e := Option.some.inj e; subst e; exact wp_iret (ty := .boolean) rfl rfl (by decide) c
  · refine wp_p (j := J_Net_aim) 1 (pc' := 20) (lv' := [(0, .ref v0), (1, .ref v1), (2, .int v2), (3, .int v3)]) (st' := [.ref v0]) rfl ?_
    refine x_cv0 (As := []) (rest := []) e rfl rfl rfl rfl rfl rfl (fun h => d_Net_setOff h ⟨rfl, rfl⟩) (fun g5 e => ?_)
    refine wp_p (j := J_Net_aim) 1 (pc' := 24) (lv' := [(0, .ref v0), (1, .ref v1), (2, .int v2), (3, .int v3)]) (st' := [.int 1]) rfl ?_
    have e := Option.some.inj e; subst e; exact wp_iret (ty := .boolean) rfl rfl (by decide) c
noncomputable def M_Address_dropMark (v0 : Nat) (g : g_S) : Option g_S :=
  (rI g 101 v0 4).bind fun z1 =>
  (wI g 101 v0 5 z1).bind fun g2 =>
  some g2
set_option maxRecDepth 20000 in
theorem d_Address_dropMark {L : Nat} {xs : Nat → Int32} {Q : Option Value → ab_H → Prop} {v0 : Nat} {g : g_S} {out : g_S} (e : M_Address_dropMark v0 g = some out) (c : Q none (hp out)) : mw (ab_ext L xs) J_Address_dropMark [.ref v0] (hp g) Q := by
  unfold M_Address_dropMark at e
  refine wp_p (j := J_Address_dropMark) 2 (pc' := 2) (lv' := [(0, .ref v0)]) (st' := [.ref v0, .ref v0]) rfl ?_
  refine x_gI e rfl rfl fd_1_4 rfl (fun z1 e => ?_)
  refine x_pI e rfl rfl fw_1_5 rfl (fun g2 e => ?_)
  have e := Option.some.inj e; subst e; exact wp_vret rfl rfl c
def cL_Bytes_addPacked_3 (L : Nat) (xs : Nat → Int32) (Q : Option Value → ab_H → Prop) (v0 : Nat) (v1 : Int64) (out : (Int32 × g_S) ⊕ (g_S)) : Prop := match out with
  | .inl s => wp (ab_ext L xs) J_Bytes_addPacked 3 [(0, .ref v0), (1, .long v1), (3, .int s.1)] [] (hp s.2) Q
  | .inr s => wp (ab_ext L xs) J_Bytes_addPacked 34 [] [] (hp s) Q
noncomputable def b_Bytes_addPacked_3 (v0 : Nat) (v1 : Int64) (v3 : Int32) (g : g_S) : Option ((Int32 × g_S) ⊕ (g_S)) :=
  if v3 < 0 then
    some (.inr g)
  else
    if ((Int64.toInt32 (v1 >>> ((v3 : Int32).toInt64 &&& 63))) &&& 255) = 0 then
      some (.inl (v3 + (-8), g))
    else
      (vc g 104 v0 (M_Bytes_add v0 ((Int64.toInt32 (v1 >>> ((v3 : Int32).toInt64 &&& 63))) &&& 255) g)).bind fun g1 =>
      some (.inl (v3 + (-8), g1))
set_option maxRecDepth 20000 in
theorem y_Bytes_addPacked_3 {L : Nat} {xs : Nat → Int32} {Q : Option Value → ab_H → Prop} {v0 : Nat} {v1 : Int64} {v3 : Int32} {g : g_S} {out : (Int32 × g_S) ⊕ (g_S)} (e : b_Bytes_addPacked_3 v0 v1 v3 g = some out) (c : cL_Bytes_addPacked_3 L xs Q v0 v1 out) : wp (ab_ext L xs) J_Bytes_addPacked 3 [(0, .ref v0), (1, .long v1), (3, .int v3)] [] (hp g) Q := by
  unfold b_Bytes_addPacked_3 at e
  refine wp_p (j := J_Bytes_addPacked) 1 (pc' := 4) (lv' := [(0, .ref v0), (1, .long v1), (3, .int v3)]) (st' := [.int v3]) rfl ?_
  refine z_lt e rfl (fun e => ?_) (fun e => ?_)
  · have e := Option.some.inj e; subst e; exact wp_lv (lv' := []) rfl trivial c
  · refine wp_p (j := J_Bytes_addPacked) 8 (pc' := 19) (lv' := [(4, .int ((Int64.toInt32 (v1 >>> ((v3 : Int32).toInt64 &&& 63))) &&& 255)), (0, .ref v0), (1, .long v1), (3, .int v3)]) (st' := [.int ((Int64.toInt32 (v1 >>> ((v3 : Int32).toInt64 &&& 63))) &&& 255)]) rfl ?_
    refine z_eq e rfl (fun e => ?_) (fun e => ?_)
    · refine wp_p (j := J_Bytes_addPacked) 2 (pc' := 3) (lv' := [(3, .int (v3 + (-8))), (4, .int ((Int64.toInt32 (v1 >>> ((v3 : Int32).toInt64 &&& 63))) &&& 255)), (0, .ref v0), (1, .long v1)]) (st' := []) rfl ?_
      have e := Option.some.inj e; subst e; exact wp_lv (lv' := [(0, .ref v0), (1, .long v1), (3, .int (v3 + (-8)))]) rfl ⟨rfl, rfl, rfl, trivial⟩ c
    · refine wp_p (j := J_Bytes_addPacked) 2 (pc' := 25) (lv' := [(4, .int ((Int64.toInt32 (v1 >>> ((v3 : Int32).toInt64 &&& 63))) &&& 255)), (0, .ref v0), (1, .long v1), (3, .int v3)]) (st' := [.int ((Int64.toInt32 (v1 >>> ((v3 : Int32).toInt64 &&& 63))) &&& 255), .ref v0]) rfl ?_
      refine x_cv0 (As := [.int ((Int64.toInt32 (v1 >>> ((v3 : Int32).toInt64 &&& 63))) &&& 255)]) (rest := []) e rfl rfl rfl rfl rfl rfl (fun h => d_Bytes_add h ⟨rfl, rfl⟩) (fun g1 e => ?_)
      refine wp_p (j := J_Bytes_addPacked) 2 (pc' := 3) (lv' := [(3, .int (v3 + (-8))), (4, .int ((Int64.toInt32 (v1 >>> ((v3 : Int32).toInt64 &&& 63))) &&& 255)), (0, .ref v0), (1, .long v1)]) (st' := []) rfl ?_
      have e := Option.some.inj e; subst e; exact wp_lv (lv' := [(0, .ref v0), (1, .long v1), (3, .int (v3 + (-8)))]) rfl ⟨rfl, rfl, rfl, trivial⟩ c
noncomputable def L_Bytes_addPacked_3 (v0 : Nat) (v1 : Int64) (v3 : Int32) (g : g_S) : Option (g_S) := it (fun s : Int32 × g_S => b_Bytes_addPacked_3 v0 v1 s.1 s.2) (v3, g)
theorem l_Bytes_addPacked_3 {L : Nat} {xs : Nat → Int32} {Q : Option Value → ab_H → Prop} {v0 : Nat} {v1 : Int64} {v3 : Int32} {g : g_S} {r : g_S} (e : L_Bytes_addPacked_3 v0 v1 v3 g = some r) (c : cL_Bytes_addPacked_3 L xs Q v0 v1 (.inr r)) : wp (ab_ext L xs) J_Bytes_addPacked 3 [(0, .ref v0), (1, .long v1), (3, .int v3)] [] (hp g) Q :=
  it_wp (P := fun s : Int32 × g_S => wp (ab_ext L xs) J_Bytes_addPacked 3 [(0, .ref v0), (1, .long v1), (3, .int s.1)] [] (hp s.2) Q) (E := fun r => cL_Bytes_addPacked_3 L xs Q v0 v1 (.inr r)) (fun s out e c => y_Bytes_addPacked_3 e (by cases out <;> exact c)) e c
theorem L_Bytes_addPacked_3_eq (v0 : Nat) (v1 : Int64) (v3 : Int32) (g : g_S) : L_Bytes_addPacked_3 v0 v1 v3 g = itc (b_Bytes_addPacked_3 v0 v1 v3 g) (fun s => L_Bytes_addPacked_3 v0 v1 s.1 s.2) := it_eq2 (fun s : Int32 × g_S => b_Bytes_addPacked_3 v0 v1 s.1 s.2) (v3, g)
noncomputable def M_Bytes_addPacked (v0 : Nat) (v1 : Int64) (g : g_S) : Option g_S :=
  (L_Bytes_addPacked_3 v0 v1 56 g).bind <| fun g3 =>
  some g3
set_option maxRecDepth 20000 in
theorem d_Bytes_addPacked {L : Nat} {xs : Nat → Int32} {Q : Option Value → ab_H → Prop} {v0 : Nat} {v1 : Int64} {g : g_S} {out : g_S} (e : M_Bytes_addPacked v0 v1 g = some out) (c : Q none (hp out)) : mw (ab_ext L xs) J_Bytes_addPacked [.ref v0, .long v1] (hp g) Q := by
  unfold M_Bytes_addPacked at e
  refine wp_p (j := J_Bytes_addPacked) 2 (pc' := 3) (lv' := [(3, .int 56), (0, .ref v0), (1, .long v1)]) (st' := []) rfl ?_
  obtain ⟨g3, h2, e⟩ := bd e
  refine wp_lv (lv' := [(0, .ref v0), (1, .long v1), (3, .int 56)]) rfl ⟨rfl, rfl, rfl, trivial⟩ ?_
  refine l_Bytes_addPacked_3 h2 ?_
  show wp (ab_ext L xs) J_Bytes_addPacked 34 [] [] (hp g3) Q
  have e := Option.some.inj e; subst e; exact wp_vret rfl rfl c
def cL_Net_listCookies_9 (L : Nat) (xs : Nat → Int32) (Q : Option Value → ab_H → Prop) (v0 : Nat) (out : (Int32 × g_S) ⊕ (g_S)) : Prop := match out with
  | .inl s => wp (ab_ext L xs) J_Net_listCookies 9 [(0, .ref v0), (1, .int s.1)] [] (hp s.2) Q
  | .inr s => wp (ab_ext L xs) J_Net_listCookies 104 [] [] (hp s) Q
noncomputable def k_Net_listCookies_55 (v0 : Nat) (v1 : Int32) (g : g_S) : Option ((Int32 × g_S) ⊕ (g_S)) :=
  (rQ g 106 v0 11).bind fun z1 =>
  (rQ g 106 v0 5).bind fun z2 =>
  (aL g z2 ((3 * v1) + 1)).bind fun z3 =>
  (vc g 104 z1 (M_Bytes_addPacked z1 z3 g)).bind fun g4 =>
  (rQ g4 106 v0 11).bind fun z5 =>
  (vc g4 104 z5 (M_Bytes_add z5 61 g4)).bind fun g6 =>
  (rQ g6 106 v0 11).bind fun z7 =>
  (rQ g6 106 v0 5).bind fun z8 =>
  (aL g6 z8 ((3 * v1) + 2)).bind fun z9 =>
  (vc g6 104 z7 (M_Bytes_addPacked z7 z9 g6)).bind fun g10 =>
  some (.inl (v1 + 1, g10))
set_option maxRecDepth 20000 in
theorem x_Net_listCookies_55 {L : Nat} {xs : Nat → Int32} {Q : Option Value → ab_H → Prop} {v0 : Nat} {v1 : Int32} {g : g_S} {out : (Int32 × g_S) ⊕ (g_S)} (e : k_Net_listCookies_55 v0 v1 g = some out) (c : cL_Net_listCookies_9 L xs Q v0 out) : wp (ab_ext L xs) J_Net_listCookies 55 [(0, .ref v0), (1, .int v1)] [] (hp g) Q := by
  unfold k_Net_listCookies_55 at e
  refine wp_p (j := J_Net_listCookies) 1 (pc' := 56) (lv' := [(0, .ref v0), (1, .int v1)]) (st' := [.ref v0]) rfl ?_
  refine x_gQ e rfl rfl fd_6_11 rfl (fun z1 e => ?_)
  refine wp_p (j := J_Net_listCookies) 1 (pc' := 60) (lv' := [(0, .ref v0), (1, .int v1)]) (st' := [.ref v0, .ref z1]) rfl ?_
  refine x_gQ e rfl rfl fd_6_5 rfl (fun z2 e => ?_)
  refine wp_p (j := J_Net_listCookies) 5 (pc' := 68) (lv' := [(0, .ref v0), (1, .int v1)]) (st' := [.int ((3 * v1) + 1), .ref z2, .ref z1]) rfl ?_
  refine x_aL e rfl rfl (fun z3 e => ?_)
  refine x_cv0 (As := [.long z3]) (rest := []) e rfl rfl rfl rfl rfl rfl (fun h => d_Bytes_addPacked h ⟨rfl, rfl⟩) (fun g4 e => ?_)
  refine wp_p (j := J_Net_listCookies) 1 (pc' := 73) (lv' := [(0, .ref v0), (1, .int v1)]) (st' := [.ref v0]) rfl ?_
  refine x_gQ e rfl rfl fd_6_11 rfl (fun z5 e => ?_)
  refine wp_p (j := J_Net_listCookies) 1 (pc' := 78) (lv' := [(0, .ref v0), (1, .int v1)]) (st' := [.int 61, .ref z5]) rfl ?_
  refine x_cv0 (As := [.int 61]) (rest := []) e rfl rfl rfl rfl rfl rfl (fun h => d_Bytes_add h ⟨rfl, rfl⟩) (fun g6 e => ?_)
  refine wp_p (j := J_Net_listCookies) 1 (pc' := 82) (lv' := [(0, .ref v0), (1, .int v1)]) (st' := [.ref v0]) rfl ?_
  refine x_gQ e rfl rfl fd_6_11 rfl (fun z7 e => ?_)
  refine wp_p (j := J_Net_listCookies) 1 (pc' := 86) (lv' := [(0, .ref v0), (1, .int v1)]) (st' := [.ref v0, .ref z7]) rfl ?_
  refine x_gQ e rfl rfl fd_6_5 rfl (fun z8 e => ?_)
  refine wp_p (j := J_Net_listCookies) 5 (pc' := 94) (lv' := [(0, .ref v0), (1, .int v1)]) (st' := [.int ((3 * v1) + 2), .ref z8, .ref z7]) rfl ?_
  refine x_aL e rfl rfl (fun z9 e => ?_)
  refine x_cv0 (As := [.long z9]) (rest := []) e rfl rfl rfl rfl rfl rfl (fun h => d_Bytes_addPacked h ⟨rfl, rfl⟩) (fun g10 e => ?_)
  refine wp_p (j := J_Net_listCookies) 2 (pc' := 9) (lv' := [(1, .int (v1 + 1)), (0, .ref v0)]) (st' := []) rfl ?_
  have e := Option.some.inj e; subst e; exact wp_lv (lv' := [(0, .ref v0), (1, .int (v1 + 1))]) rfl ⟨rfl, rfl, trivial⟩ c
noncomputable def b_Net_listCookies_9 (v0 : Nat) (v1 : Int32) (g : g_S) : Option ((Int32 × g_S) ⊕ (g_S)) :=
  (rI g 106 v0 6).bind fun z1 =>
  if v1 < z1 then
    (rQ g 106 v0 5).bind fun z2 =>
    (aL g z2 (3 * v1)).bind fun z3 =>
    (rQ g 106 v0 15).bind fun z4 =>
    (rL g 101 z4 1).bind fun z5 =>
    if (lg_cmp z3 z5) = 0 then
      (rQ g 106 v0 11).bind fun z6 =>
      (rI g 104 z6 2).bind fun z7 =>
      if 0 < z7 then
        (rQ g 106 v0 11).bind fun z8 =>
        (vc g 104 z8 (M_Bytes_add z8 59 g)).bind fun g9 =>
        k_Net_listCookies_55 v0 v1 g9
      else
        k_Net_listCookies_55 v0 v1 g
    else
      some (.inl (v1 + 1, g))
  else
    some (.inr g)
set_option maxRecDepth 20000 in
theorem y_Net_listCookies_9 {L : Nat} {xs : Nat → Int32} {Q : Option Value → ab_H → Prop} {v0 : Nat} {v1 : Int32} {g : g_S} {out : (Int32 × g_S) ⊕ (g_S)} (e : b_Net_listCookies_9 v0 v1 g = some out) (c : cL_Net_listCookies_9 L xs Q v0 out) : wp (ab_ext L xs) J_Net_listCookies 9 [(0, .ref v0), (1, .int v1)] [] (hp g) Q := by
  unfold b_Net_listCookies_9 at e
  refine wp_p (j := J_Net_listCookies) 2 (pc' := 11) (lv' := [(0, .ref v0), (1, .int v1)]) (st' := [.ref v0, .int v1]) rfl ?_
  refine x_gI e rfl rfl fd_6_6 rfl (fun z1 e => ?_)
  refine x_ge e rfl (fun e => ?_) (fun e => ?_)
  · refine wp_p (j := J_Net_listCookies) 1 (pc' := 18) (lv' := [(0, .ref v0), (1, .int v1)]) (st' := [.ref v0]) rfl ?_
    refine x_gQ e rfl rfl fd_6_5 rfl (fun z2 e => ?_)
    refine wp_p (j := J_Net_listCookies) 3 (pc' := 24) (lv' := [(0, .ref v0), (1, .int v1)]) (st' := [.int (3 * v1), .ref z2]) rfl ?_
    refine x_aL e rfl rfl (fun z3 e => ?_)
    refine wp_p (j := J_Net_listCookies) 1 (pc' := 26) (lv' := [(0, .ref v0), (1, .int v1)]) (st' := [.ref v0, .long z3]) rfl ?_
    refine x_gQ e rfl rfl fd_6_15 rfl (fun z4 e => ?_)
    refine x_gL e rfl rfl fd_1_1 rfl (fun z5 e => ?_)
    refine wp_p (j := J_Net_listCookies) 1 (pc' := 33) (lv' := [(0, .ref v0), (1, .int v1)]) (st' := [.int (lg_cmp z3 z5)]) rfl ?_
    refine z_ne e rfl (fun e => ?_) (fun e => ?_)
    · refine wp_p (j := J_Net_listCookies) 1 (pc' := 37) (lv' := [(0, .ref v0), (1, .int v1)]) (st' := [.ref v0]) rfl ?_
      refine x_gQ e rfl rfl fd_6_11 rfl (fun z6 e => ?_)
      refine x_gI e rfl rfl fd_4_2 rfl (fun z7 e => ?_)
      refine z_le e rfl (fun e => ?_) (fun e => ?_)
      · refine wp_p (j := J_Net_listCookies) 1 (pc' := 47) (lv' := [(0, .ref v0), (1, .int v1)]) (st' := [.ref v0]) rfl ?_
        refine x_gQ e rfl rfl fd_6_11 rfl (fun z8 e => ?_)
        refine wp_p (j := J_Net_listCookies) 1 (pc' := 52) (lv' := [(0, .ref v0), (1, .int v1)]) (st' := [.int 59, .ref z8]) rfl ?_
        refine x_cv0 (As := [.int 59]) (rest := []) e rfl rfl rfl rfl rfl rfl (fun h => d_Bytes_add h ⟨rfl, rfl⟩) (fun g9 e => ?_)
        exact wp_lv (lv' := [(0, .ref v0), (1, .int v1)]) rfl ⟨rfl, rfl, trivial⟩ (x_Net_listCookies_55 e c)
      · exact wp_lv (lv' := [(0, .ref v0), (1, .int v1)]) rfl ⟨rfl, rfl, trivial⟩ (x_Net_listCookies_55 e c)
    · refine wp_p (j := J_Net_listCookies) 2 (pc' := 9) (lv' := [(1, .int (v1 + 1)), (0, .ref v0)]) (st' := []) rfl ?_
      have e := Option.some.inj e; subst e; exact wp_lv (lv' := [(0, .ref v0), (1, .int (v1 + 1))]) rfl ⟨rfl, rfl, trivial⟩ c
  · have e := Option.some.inj e; subst e; exact wp_lv (lv' := []) rfl trivial c
noncomputable def L_Net_listCookies_9 (v0 : Nat) (v1 : Int32) (g : g_S) : Option (g_S) := it (fun s : Int32 × g_S => b_Net_listCookies_9 v0 s.1 s.2) (v1, g)
theorem l_Net_listCookies_9 {L : Nat} {xs : Nat → Int32} {Q : Option Value → ab_H → Prop} {v0 : Nat} {v1 : Int32} {g : g_S} {r : g_S} (e : L_Net_listCookies_9 v0 v1 g = some r) (c : cL_Net_listCookies_9 L xs Q v0 (.inr r)) : wp (ab_ext L xs) J_Net_listCookies 9 [(0, .ref v0), (1, .int v1)] [] (hp g) Q :=
  it_wp (P := fun s : Int32 × g_S => wp (ab_ext L xs) J_Net_listCookies 9 [(0, .ref v0), (1, .int s.1)] [] (hp s.2) Q) (E := fun r => cL_Net_listCookies_9 L xs Q v0 (.inr r)) (fun s out e c => y_Net_listCookies_9 e (by cases out <;> exact c)) e c
theorem L_Net_listCookies_9_eq (v0 : Nat) (v1 : Int32) (g : g_S) : L_Net_listCookies_9 v0 v1 g = itc (b_Net_listCookies_9 v0 v1 g) (fun s => L_Net_listCookies_9 v0 s.1 s.2) := it_eq2 (fun s : Int32 × g_S => b_Net_listCookies_9 v0 s.1 s.2) (v1, g)
noncomputable def M_Net_listCookies (v0 : Nat) (g : g_S) : Option g_S :=
  (rQ g 106 v0 11).bind fun z1 =>
  (vc g 104 z1 (M_Bytes_clear z1 g)).bind fun g2 =>
  (L_Net_listCookies_9 v0 0 g2).bind <| fun g5 =>
  some g5
set_option maxRecDepth 20000 in
theorem d_Net_listCookies {L : Nat} {xs : Nat → Int32} {Q : Option Value → ab_H → Prop} {v0 : Nat} {g : g_S} {out : g_S} (e : M_Net_listCookies v0 g = some out) (c : Q none (hp out)) : mw (ab_ext L xs) J_Net_listCookies [.ref v0] (hp g) Q := by
  unfold M_Net_listCookies at e
  refine wp_p (j := J_Net_listCookies) 1 (pc' := 1) (lv' := [(0, .ref v0)]) (st' := [.ref v0]) rfl ?_
  refine x_gQ e rfl rfl fd_6_11 rfl (fun z1 e => ?_)
  refine x_cv0 (As := []) (rest := []) e rfl rfl rfl rfl rfl rfl (fun h => d_Bytes_clear h ⟨rfl, rfl⟩) (fun g2 e => ?_)
  refine wp_p (j := J_Net_listCookies) 2 (pc' := 9) (lv' := [(1, .int 0), (0, .ref v0)]) (st' := []) rfl ?_
  obtain ⟨g5, h4, e⟩ := bd e
  refine wp_lv (lv' := [(0, .ref v0), (1, .int 0)]) rfl ⟨rfl, rfl, trivial⟩ ?_
  refine l_Net_listCookies_9 h4 ?_
  show wp (ab_ext L xs) J_Net_listCookies 104 [] [] (hp g5) Q
  have e := Option.some.inj e; subst e; exact wp_vret rfl rfl c
def cL_Net_rowOf_3 (L : Nat) (xs : Nat → Int32) (Q : Option Value → ab_H → Prop) (v0 : Nat) (v1 : Int32) (v2 : Int64) (v4 : Int64) (g : g_S) (out : (Int32) ⊕ ((Int32) ⊕ (Unit))) : Prop := match out with
  | .inl s => wp (ab_ext L xs) J_Net_rowOf 3 [(0, .ref v0), (1, .int v1), (2, .long v2), (4, .long v4), (6, .int s)] [] (hp g) Q
  | .inr (.inl s) => wp (ab_ext L xs) J_Net_rowOf 34 [(6, .int s)] [] (hp g) Q
  | .inr (.inr s) => wp (ab_ext L xs) J_Net_rowOf 43 [(1, .int v1)] [] (hp g) Q
noncomputable def b_Net_rowOf_3 (v0 : Nat) (v1 : Int32) (v2 : Int64) (v4 : Int64) (v6 : Int32) (g : g_S) : Option ((Int32) ⊕ ((Int32) ⊕ (Unit))) :=
  if v6 < v1 then
    (aL g v0 (3 * v6)).bind fun z1 =>
    if (lg_cmp z1 v2) = 0 then
      (aL g v0 ((3 * v6) + 1)).bind fun z2 =>
      if (lg_cmp z2 v4) = 0 then
        some (.inr (.inl v6))
      else
        some (.inl (v6 + 1))
    else
      some (.inl (v6 + 1))
  else
    some (.inr (.inr ()))
set_option maxRecDepth 20000 in
theorem y_Net_rowOf_3 {L : Nat} {xs : Nat → Int32} {Q : Option Value → ab_H → Prop} {v0 : Nat} {v1 : Int32} {v2 : Int64} {v4 : Int64} {v6 : Int32} {g : g_S} {out : (Int32) ⊕ ((Int32) ⊕ (Unit))} (e : b_Net_rowOf_3 v0 v1 v2 v4 v6 g = some out) (c : cL_Net_rowOf_3 L xs Q v0 v1 v2 v4 g out) : wp (ab_ext L xs) J_Net_rowOf 3 [(0, .ref v0), (1, .int v1), (2, .long v2), (4, .long v4), (6, .int v6)] [] (hp g) Q := by
  unfold b_Net_rowOf_3 at e
  refine wp_p (j := J_Net_rowOf) 2 (pc' := 6) (lv' := [(0, .ref v0), (1, .int v1), (2, .long v2), (4, .long v4), (6, .int v6)]) (st' := [.int v1, .int v6]) rfl ?_
  refine x_ge e rfl (fun e => ?_) (fun e => ?_)
  · refine wp_p (j := J_Net_rowOf) 4 (pc' := 14) (lv' := [(0, .ref v0), (1, .int v1), (2, .long v2), (4, .long v4), (6, .int v6)]) (st' := [.int (3 * v6), .ref v0]) rfl ?_
    refine x_aL e rfl rfl (fun z1 e => ?_)
    refine wp_p (j := J_Net_rowOf) 2 (pc' := 17) (lv' := [(0, .ref v0), (1, .int v1), (2, .long v2), (4, .long v4), (6, .int v6)]) (st' := [.int (lg_cmp z1 v2)]) rfl ?_
    refine z_ne e rfl (fun e => ?_) (fun e => ?_)
    · refine wp_p (j := J_Net_rowOf) 6 (pc' := 27) (lv' := [(0, .ref v0), (1, .int v1), (2, .long v2), (4, .long v4), (6, .int v6)]) (st' := [.int ((3 * v6) + 1), .ref v0]) rfl ?_
      refine x_aL e rfl rfl (fun z2 e => ?_)
      refine wp_p (j := J_Net_rowOf) 2 (pc' := 31) (lv' := [(0, .ref v0), (1, .int v1), (2, .long v2), (4, .long v4), (6, .int v6)]) (st' := [.int (lg_cmp z2 v4)]) rfl ?_
      refine z_ne e rfl (fun e => ?_) (fun e => ?_)
      · have e := Option.some.inj e; subst e; exact wp_lv (lv' := [(6, .int v6)]) rfl ⟨rfl, trivial⟩ c
      · refine wp_p (j := J_Net_rowOf) 2 (pc' := 3) (lv' := [(6, .int (v6 + 1)), (0, .ref v0), (1, .int v1), (2, .long v2), (4, .long v4)]) (st' := []) rfl ?_
        have e := Option.some.inj e; subst e; exact wp_lv (lv' := [(0, .ref v0), (1, .int v1), (2, .long v2), (4, .long v4), (6, .int (v6 + 1))]) rfl ⟨rfl, rfl, rfl, rfl, rfl, trivial⟩ c
    · refine wp_p (j := J_Net_rowOf) 2 (pc' := 3) (lv' := [(6, .int (v6 + 1)), (0, .ref v0), (1, .int v1), (2, .long v2), (4, .long v4)]) (st' := []) rfl ?_
      have e := Option.some.inj e; subst e; exact wp_lv (lv' := [(0, .ref v0), (1, .int v1), (2, .long v2), (4, .long v4), (6, .int (v6 + 1))]) rfl ⟨rfl, rfl, rfl, rfl, rfl, trivial⟩ c
  · have e := Option.some.inj e; subst e; exact wp_lv (lv' := [(1, .int v1)]) rfl ⟨rfl, trivial⟩ c
noncomputable def L_Net_rowOf_3 (v0 : Nat) (v1 : Int32) (v2 : Int64) (v4 : Int64) (v6 : Int32) (g : g_S) : Option ((Int32) ⊕ (Unit)) := it (fun s : Int32 => b_Net_rowOf_3 v0 v1 v2 v4 s g) (v6)
theorem l_Net_rowOf_3 {L : Nat} {xs : Nat → Int32} {Q : Option Value → ab_H → Prop} {v0 : Nat} {v1 : Int32} {v2 : Int64} {v4 : Int64} {v6 : Int32} {g : g_S} {r : (Int32) ⊕ (Unit)} (e : L_Net_rowOf_3 v0 v1 v2 v4 v6 g = some r) (c : cL_Net_rowOf_3 L xs Q v0 v1 v2 v4 g (.inr r)) : wp (ab_ext L xs) J_Net_rowOf 3 [(0, .ref v0), (1, .int v1), (2, .long v2), (4, .long v4), (6, .int v6)] [] (hp g) Q :=
  it_wp (P := fun s : Int32 => wp (ab_ext L xs) J_Net_rowOf 3 [(0, .ref v0), (1, .int v1), (2, .long v2), (4, .long v4), (6, .int s)] [] (hp g) Q) (E := fun r => cL_Net_rowOf_3 L xs Q v0 v1 v2 v4 g (.inr r)) (fun s out e c => y_Net_rowOf_3 e (by cases out <;> exact c)) e c
theorem L_Net_rowOf_3_eq (v0 : Nat) (v1 : Int32) (v2 : Int64) (v4 : Int64) (v6 : Int32) (g : g_S) : L_Net_rowOf_3 v0 v1 v2 v4 v6 g = itc (b_Net_rowOf_3 v0 v1 v2 v4 v6 g) (fun s => L_Net_rowOf_3 v0 v1 v2 v4 s g) := it_eq2 (fun s : Int32 => b_Net_rowOf_3 v0 v1 v2 v4 s g) (v6)
noncomputable def M_Net_rowOf (v0 : Nat) (v1 : Int32) (v2 : Int64) (v4 : Int64) (g : g_S) : Option Int32 :=
  (L_Net_rowOf_3 v0 v1 v2 v4 0 g).bind <|
    us (fun z3 =>
    some z3)
    (fun _ =>
    some v1)
set_option maxRecDepth 20000 in
theorem d_Net_rowOf {L : Nat} {xs : Nat → Int32} {Q : Option Value → ab_H → Prop} {v0 : Nat} {v1 : Int32} {v2 : Int64} {v4 : Int64} {g : g_S} {out : Int32} (e : M_Net_rowOf v0 v1 v2 v4 g = some out) (c : Q (some (.int out)) (hp g)) : mw (ab_ext L xs) J_Net_rowOf [.ref v0, .int v1, .long v2, .long v4] (hp g) Q := by
  unfold M_Net_rowOf at e
  refine wp_p (j := J_Net_rowOf) 2 (pc' := 3) (lv' := [(6, .int 0), (0, .ref v0), (1, .int v1), (2, .long v2), (4, .long v4)]) (st' := []) rfl ?_
  obtain ⟨s1, h2, e⟩ := bd e
  refine wp_lv (lv' := [(0, .ref v0), (1, .int v1), (2, .long v2), (4, .long v4), (6, .int 0)]) rfl ⟨rfl, rfl, rfl, rfl, rfl, trivial⟩ ?_
  refine l_Net_rowOf_3 h2 ?_
  rcases s1 with z3 | _
  · replace e := (us_l e)
    show wp (ab_ext L xs) J_Net_rowOf 34 [(6, .int z3)] [] (hp g) Q
    refine wp_p (j := J_Net_rowOf) 1 (pc' := 36) (lv' := [(6, .int z3)]) (st' := [.int z3]) rfl ?_
    have e := Option.some.inj e; subst e; exact wp_iret (ty := .int) rfl rfl rfl c
  · replace e := (us_r e)
    show wp (ab_ext L xs) J_Net_rowOf 43 [(1, .int v1)] [] (hp g) Q
    refine wp_p (j := J_Net_rowOf) 1 (pc' := 44) (lv' := [(1, .int v1)]) (st' := [.int v1]) rfl ?_
    have e := Option.some.inj e; subst e; exact wp_iret (ty := .int) rfl rfl rfl c
noncomputable def M_Net_putRow (v0 : Nat) (v1 : Int32) (v2 : Int64) (v4 : Int64) (v6 : Int64) (g : g_S) : Option (Int32 × g_S) :=
  (M_Net_rowOf v0 v1 v2 v4 g).bind fun z1 =>
  if z1 = 20 then
    some (v1, g)
  else
    (sL g v0 (3 * z1) v2).bind fun g2 =>
    (sL g2 v0 ((3 * z1) + 1) v4).bind fun g3 =>
    (sL g3 v0 ((3 * z1) + 2) v6).bind fun g4 =>
    some (mx v1 (z1 + 1), g4)
set_option maxRecDepth 20000 in
theorem d_Net_putRow {L : Nat} {xs : Nat → Int32} {Q : Option Value → ab_H → Prop} {v0 : Nat} {v1 : Int32} {v2 : Int64} {v4 : Int64} {v6 : Int64} {g : g_S} {out : Int32 × g_S} (e : M_Net_putRow v0 v1 v2 v4 v6 g = some out) (c : Q (some (.int out.1)) (hp out.2)) : mw (ab_ext L xs) J_Net_putRow [.ref v0, .int v1, .long v2, .long v4, .long v6] (hp g) Q := by
  unfold M_Net_putRow at e
  refine wp_p (j := J_Net_putRow) 4 (pc' := 5) (lv' := [(0, .ref v0), (1, .int v1), (2, .long v2), (4, .long v4), (6, .long v6)]) (st' := [.long v4, .long v2, .int v1, .ref v0]) rfl ?_
  refine x_cs1 (As := [.ref v0, .int v1, .long v2, .long v4]) (rest := []) Value.int e rfl rfl rfl rfl rfl (fun h => d_Net_rowOf h ⟨rfl, rfl⟩) (fun z1 e => ?_)
  refine wp_p (j := J_Net_putRow) 3 (pc' := 14) (lv' := [(8, .int z1), (0, .ref v0), (1, .int v1), (2, .long v2), (4, .long v4), (6, .long v6)]) (st' := [.int 20, .int z1]) rfl ?_
  refine x_ne e rfl (fun e => ?_) (fun e => ?_)
  · refine wp_p (j := J_Net_putRow) 1 (pc' := 18) (lv' := [(8, .int z1), (0, .ref v0), (1, .int v1), (2, .long v2), (4, .long v4), (6, .long v6)]) (st' := [.int v1]) rfl ?_
    have e := Option.some.inj e; subst e; exact wp_iret (ty := .int) rfl rfl rfl c
  · refine wp_p (j := J_Net_putRow) 5 (pc' := 25) (lv' := [(8, .int z1), (0, .ref v0), (1, .int v1), (2, .long v2), (4, .long v4), (6, .long v6)]) (st' := [.long v2, .int (3 * z1), .ref v0]) rfl ?_
    refine x_sL e rfl rfl (fun g2 e => ?_)
    refine wp_p (j := J_Net_putRow) 7 (pc' := 35) (lv' := [(8, .int z1), (0, .ref v0), (1, .int v1), (2, .long v2), (4, .long v4), (6, .long v6)]) (st' := [.long v4, .int ((3 * z1) + 1), .ref v0]) rfl ?_
    refine x_sL e rfl rfl (fun g3 e => ?_)
    refine wp_p (j := J_Net_putRow) 7 (pc' := 45) (lv' := [(8, .int z1), (0, .ref v0), (1, .int v1), (2, .long v2), (4, .long v4), (6, .long v6)]) (st' := [.long v6, .int ((3 * z1) + 2), .ref v0]) rfl ?_
    refine x_sL e rfl rfl (fun g4 e => ?_)
    refine wp_p (j := J_Net_putRow) 4 (pc' := 51) (lv' := [(8, .int z1), (0, .ref v0), (1, .int v1), (2, .long v2), (4, .long v4), (6, .long v6)]) (st' := [.int (z1 + 1), .int v1]) rfl ?_
    refine x_mx rfl rfl ?_
    have e := Option.some.inj e; subst e; exact wp_iret (ty := .int) rfl rfl rfl c
def cL_Net_keep_2 (L : Nat) (xs : Nat → Int32) (Q : Option Value → ab_H → Prop) (v0 : Nat) (v1 : Nat) (g : g_S) (out : (Int32) ⊕ (Int32)) : Prop := match out with
  | .inl s => wp (ab_ext L xs) J_Net_keep 2 [(0, .ref v0), (1, .ref v1), (2, .int s)] [] (hp g) Q
  | .inr s => wp (ab_ext L xs) J_Net_keep 35 [(0, .ref v0), (1, .ref v1), (2, .int s)] [] (hp g) Q
noncomputable def b_Net_keep_2 (v0 : Nat) (v1 : Nat) (v2 : Int32) (g : g_S) : Option ((Int32) ⊕ (Int32)) :=
  (rI g 106 v0 4).bind fun z1 =>
  if v2 < z1 then
    (rQ g 106 v0 3).bind fun z2 =>
    (aQ g 7 z2 v2).bind fun z3 =>
    (rQ g 102 z3 0).bind fun z4 =>
    (rQ g 102 v1 0).bind fun z5 =>
    (vc g 101 z4 (M_Address_isAt z4 z5 g)).bind fun z6 =>
    if z6 = 0 then
      some (.inl (v2 + 1))
    else
      some (.inr v2)
  else
    some (.inr v2)
set_option maxRecDepth 20000 in
theorem y_Net_keep_2 {L : Nat} {xs : Nat → Int32} {Q : Option Value → ab_H → Prop} {v0 : Nat} {v1 : Nat} {v2 : Int32} {g : g_S} {out : (Int32) ⊕ (Int32)} (e : b_Net_keep_2 v0 v1 v2 g = some out) (c : cL_Net_keep_2 L xs Q v0 v1 g out) : wp (ab_ext L xs) J_Net_keep 2 [(0, .ref v0), (1, .ref v1), (2, .int v2)] [] (hp g) Q := by
  unfold b_Net_keep_2 at e
  refine wp_p (j := J_Net_keep) 2 (pc' := 4) (lv' := [(0, .ref v0), (1, .ref v1), (2, .int v2)]) (st' := [.ref v0, .int v2]) rfl ?_
  refine x_gI e rfl rfl fd_6_4 rfl (fun z1 e => ?_)
  refine x_ge e rfl (fun e => ?_) (fun e => ?_)
  · refine wp_p (j := J_Net_keep) 1 (pc' := 11) (lv' := [(0, .ref v0), (1, .ref v1), (2, .int v2)]) (st' := [.ref v0]) rfl ?_
    refine x_gQ e rfl rfl fd_6_3 rfl (fun z2 e => ?_)
    refine wp_p (j := J_Net_keep) 1 (pc' := 15) (lv' := [(0, .ref v0), (1, .ref v1), (2, .int v2)]) (st' := [.int v2, .ref z2]) rfl ?_
    refine x_aQ e rfl rfl rfl (fun z3 e => ?_)
    refine x_gQ e rfl rfl fd_2_0 rfl (fun z4 e => ?_)
    refine wp_p (j := J_Net_keep) 1 (pc' := 20) (lv' := [(0, .ref v0), (1, .ref v1), (2, .int v2)]) (st' := [.ref v1, .ref z4]) rfl ?_
    refine x_gQ e rfl rfl fd_2_0 rfl (fun z5 e => ?_)
    refine x_cv1 (As := [.ref z5]) (rest := []) Value.int e rfl rfl rfl rfl rfl rfl (fun h => d_Address_isAt h ⟨rfl, rfl⟩) (fun z6 e => ?_)
    refine z_ne e rfl (fun e => ?_) (fun e => ?_)
    · refine wp_p (j := J_Net_keep) 2 (pc' := 2) (lv' := [(2, .int (v2 + 1)), (0, .ref v0), (1, .ref v1)]) (st' := []) rfl ?_
      have e := Option.some.inj e; subst e; exact wp_lv (lv' := [(0, .ref v0), (1, .ref v1), (2, .int (v2 + 1))]) rfl ⟨rfl, rfl, rfl, trivial⟩ c
    · have e := Option.some.inj e; subst e; exact wp_lv (lv' := [(0, .ref v0), (1, .ref v1), (2, .int v2)]) rfl ⟨rfl, rfl, rfl, trivial⟩ c
  · have e := Option.some.inj e; subst e; exact wp_lv (lv' := [(0, .ref v0), (1, .ref v1), (2, .int v2)]) rfl ⟨rfl, rfl, rfl, trivial⟩ c
noncomputable def L_Net_keep_2 (v0 : Nat) (v1 : Nat) (v2 : Int32) (g : g_S) : Option (Int32) := it (fun s : Int32 => b_Net_keep_2 v0 v1 s g) (v2)
theorem l_Net_keep_2 {L : Nat} {xs : Nat → Int32} {Q : Option Value → ab_H → Prop} {v0 : Nat} {v1 : Nat} {v2 : Int32} {g : g_S} {r : Int32} (e : L_Net_keep_2 v0 v1 v2 g = some r) (c : cL_Net_keep_2 L xs Q v0 v1 g (.inr r)) : wp (ab_ext L xs) J_Net_keep 2 [(0, .ref v0), (1, .ref v1), (2, .int v2)] [] (hp g) Q :=
  it_wp (P := fun s : Int32 => wp (ab_ext L xs) J_Net_keep 2 [(0, .ref v0), (1, .ref v1), (2, .int s)] [] (hp g) Q) (E := fun r => cL_Net_keep_2 L xs Q v0 v1 g (.inr r)) (fun s out e c => y_Net_keep_2 e (by cases out <;> exact c)) e c
theorem L_Net_keep_2_eq (v0 : Nat) (v1 : Nat) (v2 : Int32) (g : g_S) : L_Net_keep_2 v0 v1 v2 g = itc (b_Net_keep_2 v0 v1 v2 g) (fun s => L_Net_keep_2 v0 v1 s g) := it_eq2 (fun s : Int32 => b_Net_keep_2 v0 v1 s g) (v2)
def cL_Net_keep_77 (L : Nat) (xs : Nat → Int32) (Q : Option Value → ab_H → Prop) (v0 : Nat) (v1 : Nat) (out : (Int32 × g_S) ⊕ (g_S)) : Prop := match out with
  | .inl s => wp (ab_ext L xs) J_Net_keep 77 [(0, .ref v0), (1, .ref v1), (3, .int s.1)] [] (hp s.2) Q
  | .inr s => wp (ab_ext L xs) J_Net_keep 107 [(0, .ref v0), (1, .ref v1)] [] (hp s) Q
noncomputable def b_Net_keep_77 (v0 : Nat) (v1 : Nat) (v3 : Int32) (g : g_S) : Option ((Int32 × g_S) ⊕ (g_S)) :=
  (rI g 106 v0 4).bind fun z1 =>
  if (v3 + 1) < z1 then
    (rQ g 106 v0 3).bind fun z2 =>
    (rQ g 106 v0 3).bind fun z3 =>
    (aQ g 7 z3 (v3 + 1)).bind fun z4 =>
    (sQ g 7 z2 v3 z4).bind fun g5 =>
    some (.inl (v3 + 1, g5))
  else
    some (.inr g)
set_option maxRecDepth 20000 in
theorem y_Net_keep_77 {L : Nat} {xs : Nat → Int32} {Q : Option Value → ab_H → Prop} {v0 : Nat} {v1 : Nat} {v3 : Int32} {g : g_S} {out : (Int32 × g_S) ⊕ (g_S)} (e : b_Net_keep_77 v0 v1 v3 g = some out) (c : cL_Net_keep_77 L xs Q v0 v1 out) : wp (ab_ext L xs) J_Net_keep 77 [(0, .ref v0), (1, .ref v1), (3, .int v3)] [] (hp g) Q := by
  unfold b_Net_keep_77 at e
  refine wp_p (j := J_Net_keep) 4 (pc' := 81) (lv' := [(0, .ref v0), (1, .ref v1), (3, .int v3)]) (st' := [.ref v0, .int (v3 + 1)]) rfl ?_
  refine x_gI e rfl rfl fd_6_4 rfl (fun z1 e => ?_)
  refine x_ge e rfl (fun e => ?_) (fun e => ?_)
  · refine wp_p (j := J_Net_keep) 1 (pc' := 88) (lv' := [(0, .ref v0), (1, .ref v1), (3, .int v3)]) (st' := [.ref v0]) rfl ?_
    refine x_gQ e rfl rfl fd_6_3 rfl (fun z2 e => ?_)
    refine wp_p (j := J_Net_keep) 2 (pc' := 93) (lv' := [(0, .ref v0), (1, .ref v1), (3, .int v3)]) (st' := [.ref v0, .int v3, .ref z2]) rfl ?_
    refine x_gQ e rfl rfl fd_6_3 rfl (fun z3 e => ?_)
    refine wp_p (j := J_Net_keep) 3 (pc' := 99) (lv' := [(0, .ref v0), (1, .ref v1), (3, .int v3)]) (st' := [.int (v3 + 1), .ref z3, .int v3, .ref z2]) rfl ?_
    refine x_aQ e rfl rfl rfl (fun z4 e => ?_)
    refine x_sQ e rfl rfl rfl (fun g5 e => ?_)
    refine wp_p (j := J_Net_keep) 2 (pc' := 77) (lv' := [(3, .int (v3 + 1)), (0, .ref v0), (1, .ref v1)]) (st' := []) rfl ?_
    have e := Option.some.inj e; subst e; exact wp_lv (lv' := [(0, .ref v0), (1, .ref v1), (3, .int (v3 + 1))]) rfl ⟨rfl, rfl, rfl, trivial⟩ c
  · have e := Option.some.inj e; subst e; exact wp_lv (lv' := [(0, .ref v0), (1, .ref v1)]) rfl ⟨rfl, rfl, trivial⟩ c
noncomputable def L_Net_keep_77 (v0 : Nat) (v1 : Nat) (v3 : Int32) (g : g_S) : Option (g_S) := it (fun s : Int32 × g_S => b_Net_keep_77 v0 v1 s.1 s.2) (v3, g)
theorem l_Net_keep_77 {L : Nat} {xs : Nat → Int32} {Q : Option Value → ab_H → Prop} {v0 : Nat} {v1 : Nat} {v3 : Int32} {g : g_S} {r : g_S} (e : L_Net_keep_77 v0 v1 v3 g = some r) (c : cL_Net_keep_77 L xs Q v0 v1 (.inr r)) : wp (ab_ext L xs) J_Net_keep 77 [(0, .ref v0), (1, .ref v1), (3, .int v3)] [] (hp g) Q :=
  it_wp (P := fun s : Int32 × g_S => wp (ab_ext L xs) J_Net_keep 77 [(0, .ref v0), (1, .ref v1), (3, .int s.1)] [] (hp s.2) Q) (E := fun r => cL_Net_keep_77 L xs Q v0 v1 (.inr r)) (fun s out e c => y_Net_keep_77 e (by cases out <;> exact c)) e c
theorem L_Net_keep_77_eq (v0 : Nat) (v1 : Nat) (v3 : Int32) (g : g_S) : L_Net_keep_77 v0 v1 v3 g = itc (b_Net_keep_77 v0 v1 v3 g) (fun s => L_Net_keep_77 v0 v1 s.1 s.2) := it_eq2 (fun s : Int32 × g_S => b_Net_keep_77 v0 v1 s.1 s.2) (v3, g)
noncomputable def k_Net_keep_75 (v0 : Nat) (v1 : Nat) (v2 : Int32) (g : g_S) : Option g_S :=
  (L_Net_keep_77 v0 v1 v2 g).bind <| fun g3 =>
  (rQ g3 106 v0 3).bind fun z4 =>
  (rI g3 106 v0 4).bind fun z5 =>
  (sQ g3 7 z4 (z5 - 1) v1).bind fun g6 =>
  (rI g6 106 v0 12).bind fun z7 =>
  (rI g6 102 v1 1).bind fun z8 =>
  (wI g6 102 v1 7 (z7 + z8)).bind fun g9 =>
  some g9
set_option maxRecDepth 20000 in
theorem x_Net_keep_75 {L : Nat} {xs : Nat → Int32} {Q : Option Value → ab_H → Prop} {v0 : Nat} {v1 : Nat} {v2 : Int32} {g : g_S} {out : g_S} (e : k_Net_keep_75 v0 v1 v2 g = some out) (c : Q none (hp out)) : wp (ab_ext L xs) J_Net_keep 75 [(0, .ref v0), (1, .ref v1), (2, .int v2)] [] (hp g) Q := by
  unfold k_Net_keep_75 at e
  refine wp_p (j := J_Net_keep) 2 (pc' := 77) (lv' := [(3, .int v2), (0, .ref v0), (1, .ref v1), (2, .int v2)]) (st' := []) rfl ?_
  obtain ⟨g3, h2, e⟩ := bd e
  refine wp_lv (lv' := [(0, .ref v0), (1, .ref v1), (3, .int v2)]) rfl ⟨rfl, rfl, rfl, trivial⟩ ?_
  refine l_Net_keep_77 h2 ?_
  show wp (ab_ext L xs) J_Net_keep 107 [(0, .ref v0), (1, .ref v1)] [] (hp g3) Q
  refine wp_p (j := J_Net_keep) 1 (pc' := 108) (lv' := [(0, .ref v0), (1, .ref v1)]) (st' := [.ref v0]) rfl ?_
  refine x_gQ e rfl rfl fd_6_3 rfl (fun z4 e => ?_)
  refine wp_p (j := J_Net_keep) 1 (pc' := 112) (lv' := [(0, .ref v0), (1, .ref v1)]) (st' := [.ref v0, .ref z4]) rfl ?_
  refine x_gI e rfl rfl fd_6_4 rfl (fun z5 e => ?_)
  refine wp_p (j := J_Net_keep) 3 (pc' := 118) (lv' := [(0, .ref v0), (1, .ref v1)]) (st' := [.ref v1, .int (z5 - 1), .ref z4]) rfl ?_
  refine x_sQ e rfl rfl rfl (fun g6 e => ?_)
  refine wp_p (j := J_Net_keep) 2 (pc' := 121) (lv' := [(0, .ref v0), (1, .ref v1)]) (st' := [.ref v0, .ref v1]) rfl ?_
  refine x_gI e rfl rfl fd_6_12 rfl (fun z7 e => ?_)
  refine wp_p (j := J_Net_keep) 1 (pc' := 125) (lv' := [(0, .ref v0), (1, .ref v1)]) (st' := [.ref v1, .int z7, .ref v1]) rfl ?_
  refine x_gI e rfl rfl fd_2_1 rfl (fun z8 e => ?_)
  refine wp_p (j := J_Net_keep) 1 (pc' := 129) (lv' := [(0, .ref v0), (1, .ref v1)]) (st' := [.int (z7 + z8), .ref v1]) rfl ?_
  refine x_pI e rfl rfl fw_2_7 rfl (fun g9 e => ?_)
  have e := Option.some.inj e; subst e; exact wp_vret rfl rfl c
noncomputable def k_Net_keep_65 (v0 : Nat) (v1 : Nat) (v2 : Int32) (g : g_S) : Option g_S :=
  (rI g 106 v0 4).bind fun z1 =>
  if v2 = z1 then
    k_Net_keep_75 v0 v1 0 g
  else
    k_Net_keep_75 v0 v1 v2 g
set_option maxRecDepth 20000 in
theorem x_Net_keep_65 {L : Nat} {xs : Nat → Int32} {Q : Option Value → ab_H → Prop} {v0 : Nat} {v1 : Nat} {v2 : Int32} {g : g_S} {out : g_S} (e : k_Net_keep_65 v0 v1 v2 g = some out) (c : Q none (hp out)) : wp (ab_ext L xs) J_Net_keep 65 [(0, .ref v0), (1, .ref v1), (2, .int v2)] [] (hp g) Q := by
  unfold k_Net_keep_65 at e
  refine wp_p (j := J_Net_keep) 2 (pc' := 67) (lv' := [(0, .ref v0), (1, .ref v1), (2, .int v2)]) (st' := [.ref v0, .int v2]) rfl ?_
  refine x_gI e rfl rfl fd_6_4 rfl (fun z1 e => ?_)
  refine x_ne e rfl (fun e => ?_) (fun e => ?_)
  · refine wp_p (j := J_Net_keep) 2 (pc' := 75) (lv' := [(2, .int 0), (0, .ref v0), (1, .ref v1)]) (st' := []) rfl ?_
    exact wp_lv (lv' := [(0, .ref v0), (1, .ref v1), (2, .int 0)]) rfl ⟨rfl, rfl, rfl, trivial⟩ (x_Net_keep_75 e c)
  · exact wp_lv (lv' := [(0, .ref v0), (1, .ref v1), (2, .int v2)]) rfl ⟨rfl, rfl, rfl, trivial⟩ (x_Net_keep_75 e c)
noncomputable def k_Net_keep_35 (v0 : Nat) (v1 : Nat) (v2 : Int32) (g : g_S) : Option g_S :=
  (rI g 106 v0 4).bind fun z1 =>
  if v2 = z1 then
    (rI g 106 v0 4).bind fun z2 =>
    if z2 < 8 then
      (rI g 106 v0 4).bind fun z3 =>
      (wI g 106 v0 4 (z3 + 1)).bind fun g4 =>
      k_Net_keep_75 v0 v1 v2 g4
    else
      k_Net_keep_65 v0 v1 v2 g
  else
    k_Net_keep_65 v0 v1 v2 g
set_option maxRecDepth 20000 in
theorem x_Net_keep_35 {L : Nat} {xs : Nat → Int32} {Q : Option Value → ab_H → Prop} {v0 : Nat} {v1 : Nat} {v2 : Int32} {g : g_S} {out : g_S} (e : k_Net_keep_35 v0 v1 v2 g = some out) (c : Q none (hp out)) : wp (ab_ext L xs) J_Net_keep 35 [(0, .ref v0), (1, .ref v1), (2, .int v2)] [] (hp g) Q := by
  unfold k_Net_keep_35 at e
  refine wp_p (j := J_Net_keep) 2 (pc' := 37) (lv' := [(0, .ref v0), (1, .ref v1), (2, .int v2)]) (st' := [.ref v0, .int v2]) rfl ?_
  refine x_gI e rfl rfl fd_6_4 rfl (fun z1 e => ?_)
  refine x_ne e rfl (fun e => ?_) (fun e => ?_)
  · refine wp_p (j := J_Net_keep) 1 (pc' := 44) (lv' := [(0, .ref v0), (1, .ref v1), (2, .int v2)]) (st' := [.ref v0]) rfl ?_
    refine x_gI e rfl rfl fd_6_4 rfl (fun z2 e => ?_)
    refine wp_p (j := J_Net_keep) 1 (pc' := 49) (lv' := [(0, .ref v0), (1, .ref v1), (2, .int v2)]) (st' := [.int 8, .int z2]) rfl ?_
    refine x_ge e rfl (fun e => ?_) (fun e => ?_)
    · refine wp_p (j := J_Net_keep) 2 (pc' := 54) (lv' := [(0, .ref v0), (1, .ref v1), (2, .int v2)]) (st' := [.ref v0, .ref v0]) rfl ?_
      refine x_gI e rfl rfl fd_6_4 rfl (fun z3 e => ?_)
      refine wp_p (j := J_Net_keep) 2 (pc' := 59) (lv' := [(0, .ref v0), (1, .ref v1), (2, .int v2)]) (st' := [.int (z3 + 1), .ref v0]) rfl ?_
      refine x_pI e rfl rfl fw_6_4 rfl (fun g4 e => ?_)
      refine wp_p (j := J_Net_keep) 1 (pc' := 75) (lv' := [(0, .ref v0), (1, .ref v1), (2, .int v2)]) (st' := []) rfl ?_
      exact wp_lv (lv' := [(0, .ref v0), (1, .ref v1), (2, .int v2)]) rfl ⟨rfl, rfl, rfl, trivial⟩ (x_Net_keep_75 e c)
    · exact wp_lv (lv' := [(0, .ref v0), (1, .ref v1), (2, .int v2)]) rfl ⟨rfl, rfl, rfl, trivial⟩ (x_Net_keep_65 e c)
  · exact wp_lv (lv' := [(0, .ref v0), (1, .ref v1), (2, .int v2)]) rfl ⟨rfl, rfl, rfl, trivial⟩ (x_Net_keep_65 e c)
noncomputable def M_Net_keep (v0 : Nat) (v1 : Nat) (g : g_S) : Option g_S :=
  (L_Net_keep_2 v0 v1 0 g).bind <| fun z3 =>
  k_Net_keep_35 v0 v1 z3 g
set_option maxRecDepth 20000 in
theorem d_Net_keep {L : Nat} {xs : Nat → Int32} {Q : Option Value → ab_H → Prop} {v0 : Nat} {v1 : Nat} {g : g_S} {out : g_S} (e : M_Net_keep v0 v1 g = some out) (c : Q none (hp out)) : mw (ab_ext L xs) J_Net_keep [.ref v0, .ref v1] (hp g) Q := by
  unfold M_Net_keep at e
  refine wp_p (j := J_Net_keep) 2 (pc' := 2) (lv' := [(2, .int 0), (0, .ref v0), (1, .ref v1)]) (st' := []) rfl ?_
  obtain ⟨z3, h2, e⟩ := bd e
  refine wp_lv (lv' := [(0, .ref v0), (1, .ref v1), (2, .int 0)]) rfl ⟨rfl, rfl, rfl, trivial⟩ ?_
  refine l_Net_keep_2 h2 ?_
  show wp (ab_ext L xs) J_Net_keep 35 [(0, .ref v0), (1, .ref v1), (2, .int z3)] [] (hp g) Q
  exact wp_lv (lv' := [(0, .ref v0), (1, .ref v1), (2, .int z3)]) rfl ⟨rfl, rfl, rfl, trivial⟩ (x_Net_keep_35 e c)
def cL_Net_ask_90 (L : Nat) (xs : Nat → Int32) (Q : Option Value → ab_H → Prop) (v0 : Nat) (g : g_S) (out : (Nat × Int32) ⊕ (Nat)) : Prop := match out with
  | .inl s => wp (ab_ext L xs) J_Net_ask 90 [(0, .ref v0), (1, .ref s.1), (2, .int s.2)] [] (hp g) Q
  | .inr s => wp (ab_ext L xs) J_Net_ask 130 [(0, .ref v0), (1, .ref s)] [] (hp g) Q
noncomputable def b_Net_ask_90 (v0 : Nat) (v1 : Nat) (v2 : Int32) (g : g_S) : Option ((Nat × Int32) ⊕ (Nat)) :=
  (rI g 106 v0 2).bind fun z1 =>
  if v2 < z1 then
    (rQ g 106 v0 1).bind fun z2 =>
    (aQ g 7 z2 v2).bind fun z3 =>
    (rQ g 102 z3 0).bind fun z4 =>
    (rQ g 106 v0 15).bind fun z5 =>
    (vc g 101 z4 (M_Address_isAt z4 z5 g)).bind fun z6 =>
    if z6 = 0 then
      some (.inl (v1, v2 + 1))
    else
      (rQ g 106 v0 1).bind fun z7 =>
      (aQ g 7 z7 v2).bind fun z8 =>
      some (.inl (z8, v2 + 1))
  else
    some (.inr v1)
set_option maxRecDepth 20000 in
theorem y_Net_ask_90 {L : Nat} {xs : Nat → Int32} {Q : Option Value → ab_H → Prop} {v0 : Nat} {v1 : Nat} {v2 : Int32} {g : g_S} {out : (Nat × Int32) ⊕ (Nat)} (e : b_Net_ask_90 v0 v1 v2 g = some out) (c : cL_Net_ask_90 L xs Q v0 g out) : wp (ab_ext L xs) J_Net_ask 90 [(0, .ref v0), (1, .ref v1), (2, .int v2)] [] (hp g) Q := by
  unfold b_Net_ask_90 at e
  refine wp_p (j := J_Net_ask) 2 (pc' := 92) (lv' := [(0, .ref v0), (1, .ref v1), (2, .int v2)]) (st' := [.ref v0, .int v2]) rfl ?_
  refine x_gI e rfl rfl fd_6_2 rfl (fun z1 e => ?_)
  refine x_ge e rfl (fun e => ?_) (fun e => ?_)
  · refine wp_p (j := J_Net_ask) 1 (pc' := 99) (lv' := [(0, .ref v0), (1, .ref v1), (2, .int v2)]) (st' := [.ref v0]) rfl ?_
    refine x_gQ e rfl rfl fd_6_1 rfl (fun z2 e => ?_)
    refine wp_p (j := J_Net_ask) 1 (pc' := 103) (lv' := [(0, .ref v0), (1, .ref v1), (2, .int v2)]) (st' := [.int v2, .ref z2]) rfl ?_
    refine x_aQ e rfl rfl rfl (fun z3 e => ?_)
    refine x_gQ e rfl rfl fd_2_0 rfl (fun z4 e => ?_)
    refine wp_p (j := J_Net_ask) 1 (pc' := 108) (lv' := [(0, .ref v0), (1, .ref v1), (2, .int v2)]) (st' := [.ref v0, .ref z4]) rfl ?_
    refine x_gQ e rfl rfl fd_6_15 rfl (fun z5 e => ?_)
    refine x_cv1 (As := [.ref z5]) (rest := []) Value.int e rfl rfl rfl rfl rfl rfl (fun h => d_Address_isAt h ⟨rfl, rfl⟩) (fun z6 e => ?_)
    refine z_eq e rfl (fun e => ?_) (fun e => ?_)
    · refine wp_p (j := J_Net_ask) 2 (pc' := 90) (lv' := [(2, .int (v2 + 1)), (0, .ref v0), (1, .ref v1)]) (st' := []) rfl ?_
      have e := Option.some.inj e; subst e; exact wp_lv (lv' := [(0, .ref v0), (1, .ref v1), (2, .int (v2 + 1))]) rfl ⟨rfl, rfl, rfl, trivial⟩ c
    · refine wp_p (j := J_Net_ask) 1 (pc' := 118) (lv' := [(0, .ref v0), (1, .ref v1), (2, .int v2)]) (st' := [.ref v0]) rfl ?_
      refine x_gQ e rfl rfl fd_6_1 rfl (fun z7 e => ?_)
      refine wp_p (j := J_Net_ask) 1 (pc' := 122) (lv' := [(0, .ref v0), (1, .ref v1), (2, .int v2)]) (st' := [.int v2, .ref z7]) rfl ?_
      refine x_aQ e rfl rfl rfl (fun z8 e => ?_)
      refine wp_p (j := J_Net_ask) 3 (pc' := 90) (lv' := [(2, .int (v2 + 1)), (1, .ref z8), (0, .ref v0)]) (st' := []) rfl ?_
      have e := Option.some.inj e; subst e; exact wp_lv (lv' := [(0, .ref v0), (1, .ref z8), (2, .int (v2 + 1))]) rfl ⟨rfl, rfl, rfl, trivial⟩ c
  · have e := Option.some.inj e; subst e; exact wp_lv (lv' := [(0, .ref v0), (1, .ref v1)]) rfl ⟨rfl, rfl, trivial⟩ c
noncomputable def L_Net_ask_90 (v0 : Nat) (v1 : Nat) (v2 : Int32) (g : g_S) : Option (Nat) := it (fun s : Nat × Int32 => b_Net_ask_90 v0 s.1 s.2 g) (v1, v2)
theorem l_Net_ask_90 {L : Nat} {xs : Nat → Int32} {Q : Option Value → ab_H → Prop} {v0 : Nat} {v1 : Nat} {v2 : Int32} {g : g_S} {r : Nat} (e : L_Net_ask_90 v0 v1 v2 g = some r) (c : cL_Net_ask_90 L xs Q v0 g (.inr r)) : wp (ab_ext L xs) J_Net_ask 90 [(0, .ref v0), (1, .ref v1), (2, .int v2)] [] (hp g) Q :=
  it_wp (P := fun s : Nat × Int32 => wp (ab_ext L xs) J_Net_ask 90 [(0, .ref v0), (1, .ref s.1), (2, .int s.2)] [] (hp g) Q) (E := fun r => cL_Net_ask_90 L xs Q v0 g (.inr r)) (fun s out e c => y_Net_ask_90 e (by cases out <;> exact c)) e c
theorem L_Net_ask_90_eq (v0 : Nat) (v1 : Nat) (v2 : Int32) (g : g_S) : L_Net_ask_90 v0 v1 v2 g = itc (b_Net_ask_90 v0 v1 v2 g) (fun s => L_Net_ask_90 v0 s.1 s.2 g) := it_eq2 (fun s : Nat × Int32 => b_Net_ask_90 v0 s.1 s.2 g) (v1, v2)
def cL_Net_ask_2 (L : Nat) (xs : Nat → Int32) (Q : Option Value → ab_H → Prop) (v0 : Nat) (g : g_S) (out : (Int32) ⊕ ((Int32) ⊕ (Unit))) : Prop := match out with
  | .inl s => wp (ab_ext L xs) J_Net_ask 2 [(0, .ref v0), (1, .int s)] [] (hp g) Q
  | .inr (.inl s) => wp (ab_ext L xs) J_Net_ask 45 [(0, .ref v0), (1, .int s)] [] (hp g) Q
  | .inr (.inr s) => wp (ab_ext L xs) J_Net_ask 58 [(0, .ref v0)] [] (hp g) Q
noncomputable def b_Net_ask_2 (v0 : Nat) (v1 : Int32) (g : g_S) : Option ((Int32) ⊕ ((Int32) ⊕ (Unit))) :=
  (rI g 106 v0 4).bind fun z1 =>
  if v1 < z1 then
    (rQ g 106 v0 3).bind fun z2 =>
    (aQ g 7 z2 v1).bind fun z3 =>
    (rI g 102 z3 7).bind fun z4 =>
    (rI g 106 v0 12).bind fun z5 =>
    if z5 < z4 then
      (rQ g 106 v0 3).bind fun z6 =>
      (aQ g 7 z6 v1).bind fun z7 =>
      (rQ g 102 z7 0).bind fun z8 =>
      (rQ g 106 v0 15).bind fun z9 =>
      (vc g 101 z8 (M_Address_isAt z8 z9 g)).bind fun z10 =>
      if z10 = 0 then
        some (.inl (v1 + 1))
      else
        some (.inr (.inl v1))
    else
      some (.inl (v1 + 1))
  else
    some (.inr (.inr ()))
set_option maxRecDepth 20000 in
theorem y_Net_ask_2 {L : Nat} {xs : Nat → Int32} {Q : Option Value → ab_H → Prop} {v0 : Nat} {v1 : Int32} {g : g_S} {out : (Int32) ⊕ ((Int32) ⊕ (Unit))} (e : b_Net_ask_2 v0 v1 g = some out) (c : cL_Net_ask_2 L xs Q v0 g out) : wp (ab_ext L xs) J_Net_ask 2 [(0, .ref v0), (1, .int v1)] [] (hp g) Q := by
  unfold b_Net_ask_2 at e
  refine wp_p (j := J_Net_ask) 2 (pc' := 4) (lv' := [(0, .ref v0), (1, .int v1)]) (st' := [.ref v0, .int v1]) rfl ?_
  refine x_gI e rfl rfl fd_6_4 rfl (fun z1 e => ?_)
  refine x_ge e rfl (fun e => ?_) (fun e => ?_)
  · refine wp_p (j := J_Net_ask) 1 (pc' := 11) (lv' := [(0, .ref v0), (1, .int v1)]) (st' := [.ref v0]) rfl ?_
    refine x_gQ e rfl rfl fd_6_3 rfl (fun z2 e => ?_)
    refine wp_p (j := J_Net_ask) 1 (pc' := 15) (lv' := [(0, .ref v0), (1, .int v1)]) (st' := [.int v1, .ref z2]) rfl ?_
    refine x_aQ e rfl rfl rfl (fun z3 e => ?_)
    refine x_gI e rfl rfl fd_2_7 rfl (fun z4 e => ?_)
    refine wp_p (j := J_Net_ask) 1 (pc' := 20) (lv' := [(0, .ref v0), (1, .int v1)]) (st' := [.ref v0, .int z4]) rfl ?_
    refine x_gI e rfl rfl fd_6_12 rfl (fun z5 e => ?_)
    refine x_le e rfl (fun e => ?_) (fun e => ?_)
    · refine wp_p (j := J_Net_ask) 1 (pc' := 27) (lv' := [(0, .ref v0), (1, .int v1)]) (st' := [.ref v0]) rfl ?_
      refine x_gQ e rfl rfl fd_6_3 rfl (fun z6 e => ?_)
      refine wp_p (j := J_Net_ask) 1 (pc' := 31) (lv' := [(0, .ref v0), (1, .int v1)]) (st' := [.int v1, .ref z6]) rfl ?_
      refine x_aQ e rfl rfl rfl (fun z7 e => ?_)
      refine x_gQ e rfl rfl fd_2_0 rfl (fun z8 e => ?_)
      refine wp_p (j := J_Net_ask) 1 (pc' := 36) (lv' := [(0, .ref v0), (1, .int v1)]) (st' := [.ref v0, .ref z8]) rfl ?_
      refine x_gQ e rfl rfl fd_6_15 rfl (fun z9 e => ?_)
      refine x_cv1 (As := [.ref z9]) (rest := []) Value.int e rfl rfl rfl rfl rfl rfl (fun h => d_Address_isAt h ⟨rfl, rfl⟩) (fun z10 e => ?_)
      refine z_eq e rfl (fun e => ?_) (fun e => ?_)
      · refine wp_p (j := J_Net_ask) 2 (pc' := 2) (lv' := [(1, .int (v1 + 1)), (0, .ref v0)]) (st' := []) rfl ?_
        have e := Option.some.inj e; subst e; exact wp_lv (lv' := [(0, .ref v0), (1, .int (v1 + 1))]) rfl ⟨rfl, rfl, trivial⟩ c
      · have e := Option.some.inj e; subst e; exact wp_lv (lv' := [(0, .ref v0), (1, .int v1)]) rfl ⟨rfl, rfl, trivial⟩ c
    · refine wp_p (j := J_Net_ask) 2 (pc' := 2) (lv' := [(1, .int (v1 + 1)), (0, .ref v0)]) (st' := []) rfl ?_
      have e := Option.some.inj e; subst e; exact wp_lv (lv' := [(0, .ref v0), (1, .int (v1 + 1))]) rfl ⟨rfl, rfl, trivial⟩ c
  · have e := Option.some.inj e; subst e; exact wp_lv (lv' := [(0, .ref v0)]) rfl ⟨rfl, trivial⟩ c
noncomputable def L_Net_ask_2 (v0 : Nat) (v1 : Int32) (g : g_S) : Option ((Int32) ⊕ (Unit)) := it (fun s : Int32 => b_Net_ask_2 v0 s g) (v1)
theorem l_Net_ask_2 {L : Nat} {xs : Nat → Int32} {Q : Option Value → ab_H → Prop} {v0 : Nat} {v1 : Int32} {g : g_S} {r : (Int32) ⊕ (Unit)} (e : L_Net_ask_2 v0 v1 g = some r) (c : cL_Net_ask_2 L xs Q v0 g (.inr r)) : wp (ab_ext L xs) J_Net_ask 2 [(0, .ref v0), (1, .int v1)] [] (hp g) Q :=
  it_wp (P := fun s : Int32 => wp (ab_ext L xs) J_Net_ask 2 [(0, .ref v0), (1, .int s)] [] (hp g) Q) (E := fun r => cL_Net_ask_2 L xs Q v0 g (.inr r)) (fun s out e c => y_Net_ask_2 e (by cases out <;> exact c)) e c
theorem L_Net_ask_2_eq (v0 : Nat) (v1 : Int32) (g : g_S) : L_Net_ask_2 v0 v1 g = itc (b_Net_ask_2 v0 v1 g) (fun s => L_Net_ask_2 v0 s g) := it_eq2 (fun s : Int32 => b_Net_ask_2 v0 s g) (v1)
noncomputable def k_Net_ask_169 (v0 : Nat) (v1 : Nat) (g : g_S) : Option (Nat × g_S) :=
  (rI g 102 v1 1).bind fun z1 =>
  if 0 < z1 then
    (vc g 106 v0 (M_Net_keep v0 v1 g)).bind fun g2 =>
    some (v1, g2)
  else
    some (v1, g)
set_option maxRecDepth 20000 in
theorem x_Net_ask_169 {L : Nat} {xs : Nat → Int32} {Q : Option Value → ab_H → Prop} {v0 : Nat} {v1 : Nat} {g : g_S} {out : Nat × g_S} (e : k_Net_ask_169 v0 v1 g = some out) (c : Q (some (.ref out.1)) (hp out.2)) : wp (ab_ext L xs) J_Net_ask 169 [(0, .ref v0), (1, .ref v1)] [] (hp g) Q := by
  unfold k_Net_ask_169 at e
  refine wp_p (j := J_Net_ask) 1 (pc' := 170) (lv' := [(0, .ref v0), (1, .ref v1)]) (st' := [.ref v1]) rfl ?_
  refine x_gI e rfl rfl fd_2_1 rfl (fun z1 e => ?_)
  refine z_le e rfl (fun e => ?_) (fun e => ?_)
  · refine wp_p (j := J_Net_ask) 2 (pc' := 178) (lv' := [(0, .ref v0), (1, .ref v1)]) (st' := [.ref v1, .ref v0]) rfl ?_
    refine x_cv0 (As := [.ref v1]) (rest := []) e rfl rfl rfl rfl rfl rfl (fun h => d_Net_keep h ⟨rfl, rfl⟩) (fun g2 e => ?_)
    refine wp_p (j := J_Net_ask) 1 (pc' := 182) (lv' := [(0, .ref v0), (1, .ref v1)]) (st' := [.ref v1]) rfl ?_
    have e := Option.some.inj e; subst e; exact wp_r rfl rfl rfl rfl rfl c
  · refine wp_p (j := J_Net_ask) 1 (pc' := 182) (lv' := [(0, .ref v0), (1, .ref v1)]) (st' := [.ref v1]) rfl ?_
    have e := Option.some.inj e; subst e; exact wp_r rfl rfl rfl rfl rfl c
noncomputable def M_Net_ask (v0 : Nat) (g : g_S) : Option (Nat × g_S) :=
  (L_Net_ask_2 v0 0 g).bind <|
    us (fun z3 =>
    (rQ g 106 v0 3).bind fun z4 =>
    (aQ g 7 z4 z3).bind fun z5 =>
    some (z5, g))
    (fun _ =>
    (rI g 106 v0 9).bind fun z6 =>
    (wI g 106 v0 9 (z6 + 1)).bind fun g7 =>
    (rQ g7 106 v0 10).bind fun z8 =>
    (rQ g7 106 v0 15).bind fun z9 =>
    (vc g7 101 z8 (M_Address_copy z8 z9 g7)).bind fun g10 =>
    (vc g10 106 v0 (M_Net_listCookies v0 g10)).bind fun g11 =>
    (rQ g11 106 v0 0).bind fun z12 =>
    (L_Net_ask_90 v0 z12 0 g11).bind <| fun z15 =>
    (rL g11 102 z15 2).bind fun z16 =>
    if (lg_cmp z16 0) = 0 then
      k_Net_ask_169 v0 z15 g11
    else
      (rQ g11 106 v0 5).bind fun z17 =>
      (rI g11 106 v0 6).bind fun z18 =>
      (rQ g11 106 v0 15).bind fun z19 =>
      (rL g11 101 z19 1).bind fun z20 =>
      (rL g11 102 z15 2).bind fun z21 =>
      (rL g11 102 z15 3).bind fun z22 =>
      c2 (M_Net_putRow z17 z18 z20 z21 z22 g11) fun z23 g24 =>
      (wI g24 106 v0 6 z23).bind fun g25 =>
      k_Net_ask_169 v0 z15 g25)
set_option maxRecDepth 20000 in
theorem d_Net_ask {L : Nat} {xs : Nat → Int32} {Q : Option Value → ab_H → Prop} {v0 : Nat} {g : g_S} {out : Nat × g_S} (e : M_Net_ask v0 g = some out) (c : Q (some (.ref out.1)) (hp out.2)) : mw (ab_ext L xs) J_Net_ask [.ref v0] (hp g) Q := by
  unfold M_Net_ask at e
  refine wp_p (j := J_Net_ask) 2 (pc' := 2) (lv' := [(1, .int 0), (0, .ref v0)]) (st' := []) rfl ?_
  obtain ⟨s1, h2, e⟩ := bd e
  refine wp_lv (lv' := [(0, .ref v0), (1, .int 0)]) rfl ⟨rfl, rfl, trivial⟩ ?_
  refine l_Net_ask_2 h2 ?_
  rcases s1 with z3 | _
  · replace e := (us_l e)
    show wp (ab_ext L xs) J_Net_ask 45 [(0, .ref v0), (1, .int z3)] [] (hp g) Q
    refine wp_p (j := J_Net_ask) 1 (pc' := 46) (lv' := [(0, .ref v0), (1, .int z3)]) (st' := [.ref v0]) rfl ?_
    refine x_gQ e rfl rfl fd_6_3 rfl (fun z4 e => ?_)
    refine wp_p (j := J_Net_ask) 1 (pc' := 50) (lv' := [(0, .ref v0), (1, .int z3)]) (st' := [.int z3, .ref z4]) rfl ?_
    refine x_aQ e rfl rfl rfl (fun z5 e => ?_)
    have e := Option.some.inj e; subst e; exact wp_r rfl rfl rfl rfl rfl c
  · replace e := (us_r e)
    show wp (ab_ext L xs) J_Net_ask 58 [(0, .ref v0)] [] (hp g) Q
    refine wp_p (j := J_Net_ask) 2 (pc' := 60) (lv' := [(0, .ref v0)]) (st' := [.ref v0, .ref v0]) rfl ?_
    refine x_gI e rfl rfl fd_6_9 rfl (fun z6 e => ?_)
    refine wp_p (j := J_Net_ask) 2 (pc' := 65) (lv' := [(0, .ref v0)]) (st' := [.int (z6 + 1), .ref v0]) rfl ?_
    refine x_pI e rfl rfl fw_6_9 rfl (fun g7 e => ?_)
    refine wp_p (j := J_Net_ask) 1 (pc' := 69) (lv' := [(0, .ref v0)]) (st' := [.ref v0]) rfl ?_
    refine x_gQ e rfl rfl fd_6_10 rfl (fun z8 e => ?_)
    refine wp_p (j := J_Net_ask) 1 (pc' := 73) (lv' := [(0, .ref v0)]) (st' := [.ref v0, .ref z8]) rfl ?_
    refine x_gQ e rfl rfl fd_6_15 rfl (fun z9 e => ?_)
    refine x_cv0 (As := [.ref z9]) (rest := []) e rfl rfl rfl rfl rfl rfl (fun h => d_Address_copy h ⟨rfl, rfl⟩) (fun g10 e => ?_)
    refine wp_p (j := J_Net_ask) 1 (pc' := 80) (lv' := [(0, .ref v0)]) (st' := [.ref v0]) rfl ?_
    refine x_cv0 (As := []) (rest := []) e rfl rfl rfl rfl rfl rfl (fun h => d_Net_listCookies h ⟨rfl, rfl⟩) (fun g11 e => ?_)
    refine wp_p (j := J_Net_ask) 1 (pc' := 84) (lv' := [(0, .ref v0)]) (st' := [.ref v0]) rfl ?_
    refine x_gQ e rfl rfl fd_6_0 rfl (fun z12 e => ?_)
    refine wp_p (j := J_Net_ask) 3 (pc' := 90) (lv' := [(2, .int 0), (1, .ref z12), (0, .ref v0)]) (st' := []) rfl ?_
    obtain ⟨z15, h14, e⟩ := bd e
    refine wp_lv (lv' := [(0, .ref v0), (1, .ref z12), (2, .int 0)]) rfl ⟨rfl, rfl, rfl, trivial⟩ ?_
    refine l_Net_ask_90 h14 ?_
    show wp (ab_ext L xs) J_Net_ask 130 [(0, .ref v0), (1, .ref z15)] [] (hp g11) Q
    refine wp_p (j := J_Net_ask) 1 (pc' := 131) (lv' := [(0, .ref v0), (1, .ref z15)]) (st' := [.ref z15]) rfl ?_
    refine x_gL e rfl rfl fd_2_2 rfl (fun z16 e => ?_)
    refine wp_p (j := J_Net_ask) 2 (pc' := 136) (lv' := [(0, .ref v0), (1, .ref z15)]) (st' := [.int (lg_cmp z16 0)]) rfl ?_
    refine z_eq e rfl (fun e => ?_) (fun e => ?_)
    · exact wp_lv (lv' := [(0, .ref v0), (1, .ref z15)]) rfl ⟨rfl, rfl, trivial⟩ (x_Net_ask_169 e c)
    · refine wp_p (j := J_Net_ask) 2 (pc' := 141) (lv' := [(0, .ref v0), (1, .ref z15)]) (st' := [.ref v0, .ref v0]) rfl ?_
      refine x_gQ e rfl rfl fd_6_5 rfl (fun z17 e => ?_)
      refine wp_p (j := J_Net_ask) 1 (pc' := 145) (lv' := [(0, .ref v0), (1, .ref z15)]) (st' := [.ref v0, .ref z17, .ref v0]) rfl ?_
      refine x_gI e rfl rfl fd_6_6 rfl (fun z18 e => ?_)
      refine wp_p (j := J_Net_ask) 1 (pc' := 149) (lv' := [(0, .ref v0), (1, .ref z15)]) (st' := [.ref v0, .int z18, .ref z17, .ref v0]) rfl ?_
      refine x_gQ e rfl rfl fd_6_15 rfl (fun z19 e => ?_)
      refine x_gL e rfl rfl fd_1_1 rfl (fun z20 e => ?_)
      refine wp_p (j := J_Net_ask) 1 (pc' := 156) (lv' := [(0, .ref v0), (1, .ref z15)]) (st' := [.ref z15, .long z20, .int z18, .ref z17, .ref v0]) rfl ?_
      refine x_gL e rfl rfl fd_2_2 rfl (fun z21 e => ?_)
      refine wp_p (j := J_Net_ask) 1 (pc' := 160) (lv' := [(0, .ref v0), (1, .ref z15)]) (st' := [.ref z15, .long z21, .long z20, .int z18, .ref z17, .ref v0]) rfl ?_
      refine x_gL e rfl rfl fd_2_3 rfl (fun z22 e => ?_)
      refine x_cs2 (As := [.ref z17, .int z18, .long z20, .long z21, .long z22]) (rest := [.ref v0]) Value.int e rfl rfl rfl rfl rfl (fun h => d_Net_putRow h ⟨rfl, rfl⟩) (fun z23 g24 e => ?_)
      refine x_pI e rfl rfl fw_6_6 rfl (fun g25 e => ?_)
      exact wp_lv (lv' := [(0, .ref v0), (1, .ref z15)]) rfl ⟨rfl, rfl, trivial⟩ (x_Net_ask_169 e c)
def cL_Net_fetch_17 (L : Nat) (xs : Nat → Int32) (Q : Option Value → ab_H → Prop) (v0 : Nat) (out : (Int32 × g_S) ⊕ ((Nat × g_S) ⊕ (g_S))) : Prop := match out with
  | .inl s => wp (ab_ext L xs) J_Net_fetch 17 [(0, .ref v0), (2, .int s.1)] [] (hp s.2) Q
  | .inr (.inl s) => wp (ab_ext L xs) J_Net_fetch 35 [(3, .ref s.1)] [] (hp s.2) Q
  | .inr (.inr s) => wp (ab_ext L xs) J_Net_fetch 67 [(0, .ref v0)] [] (hp s) Q
noncomputable def b_Net_fetch_17 (v0 : Nat) (v2 : Int32) (g : g_S) : Option ((Int32 × g_S) ⊕ ((Nat × g_S) ⊕ (g_S))) :=
  if 6 < v2 then
    some (.inr (.inr g))
  else
    c2 (vc g 106 v0 (M_Net_ask v0 g)) fun z1 g2 =>
    (rO g2 102 z1 4).bind fun z3 =>
    oc z3
      (fun q4 =>
      if v2 < 6 then
        (rQ g2 106 v0 15).bind fun z5 =>
        (rO g2 102 z1 4).bind fun z6 =>
        oc z6
          (fun q7 =>
          (vc g2 101 z5 (M_Address_copy z5 q7 g2)).bind fun g8 =>
          (rQ g8 106 v0 15).bind fun z9 =>
          (vc g8 101 z9 (M_Address_dropMark z9 g8)).bind fun g10 =>
          some (.inl (v2 + 1, g10)))
          (
          none)
      else
        some (.inl (v2 + 1, g2)))
      (
      some (.inr (.inl (z1, g2))))
set_option maxRecDepth 20000 in
theorem y_Net_fetch_17 {L : Nat} {xs : Nat → Int32} {Q : Option Value → ab_H → Prop} {v0 : Nat} {v2 : Int32} {g : g_S} {out : (Int32 × g_S) ⊕ ((Nat × g_S) ⊕ (g_S))} (e : b_Net_fetch_17 v0 v2 g = some out) (c : cL_Net_fetch_17 L xs Q v0 out) : wp (ab_ext L xs) J_Net_fetch 17 [(0, .ref v0), (2, .int v2)] [] (hp g) Q := by
  unfold b_Net_fetch_17 at e
  refine wp_p (j := J_Net_fetch) 2 (pc' := 20) (lv' := [(0, .ref v0), (2, .int v2)]) (st' := [.int 6, .int v2]) rfl ?_
  refine x_gt e rfl (fun e => ?_) (fun e => ?_)
  · have e := Option.some.inj e; subst e; exact wp_lv (lv' := [(0, .ref v0)]) rfl ⟨rfl, trivial⟩ c
  · refine wp_p (j := J_Net_fetch) 1 (pc' := 24) (lv' := [(0, .ref v0), (2, .int v2)]) (st' := [.ref v0]) rfl ?_
    refine x_cv2 (As := []) (rest := []) Value.ref e rfl rfl rfl rfl rfl rfl (fun h => d_Net_ask h ⟨rfl, rfl⟩) (fun z1 g2 e => ?_)
    refine wp_p (j := J_Net_fetch) 2 (pc' := 29) (lv' := [(3, .ref z1), (0, .ref v0), (2, .int v2)]) (st' := [.ref z1]) rfl ?_
    refine x_gO e rfl rfl fd_2_4 rfl (fun z3 e => ?_)
    rcases z3 with _ | q4
    · replace e := oc_n e
      show wp (ab_ext L xs) J_Net_fetch 32 [(3, .ref z1), (0, .ref v0), (2, .int v2)] [.null] (hp g2) Q
      refine wp_b (pc' := 35) (st' := []) rfl rfl rfl ?_
      have e := Option.some.inj e; subst e; exact wp_lv (lv' := [(3, .ref z1)]) rfl ⟨rfl, trivial⟩ c
    · replace e := oc_s e
      show wp (ab_ext L xs) J_Net_fetch 32 [(3, .ref z1), (0, .ref v0), (2, .int v2)] [.ref q4] (hp g2) Q
      refine wp_b (pc' := 37) (st' := []) rfl rfl rfl ?_
      refine wp_p (j := J_Net_fetch) 2 (pc' := 40) (lv' := [(3, .ref z1), (0, .ref v0), (2, .int v2)]) (st' := [.int 6, .int v2]) rfl ?_
      refine x_ge e rfl (fun e => ?_) (fun e => ?_)
      · refine wp_p (j := J_Net_fetch) 1 (pc' := 44) (lv' := [(3, .ref z1), (0, .ref v0), (2, .int v2)]) (st' := [.ref v0]) rfl ?_
        refine x_gQ e rfl rfl fd_6_15 rfl (fun z5 e => ?_)
        refine wp_p (j := J_Net_fetch) 1 (pc' := 48) (lv' := [(3, .ref z1), (0, .ref v0), (2, .int v2)]) (st' := [.ref z1, .ref z5]) rfl ?_
        refine x_gO e rfl rfl fd_2_4 rfl (fun z6 e => ?_)
        rcases z6 with _ | q7
        · replace e := oc_n e
          show wp (ab_ext L xs) J_Net_fetch 51 [(3, .ref z1), (0, .ref v0), (2, .int v2)] [.null, .ref z5] (hp g2) Q
          cases e
        · replace e := oc_s e
          show wp (ab_ext L xs) J_Net_fetch 51 [(3, .ref z1), (0, .ref v0), (2, .int v2)] [.ref q7, .ref z5] (hp g2) Q
          refine x_cv0 (As := [.ref q7]) (rest := []) e rfl rfl rfl rfl rfl rfl (fun h => d_Address_copy h ⟨rfl, rfl⟩) (fun g8 e => ?_)
          refine wp_p (j := J_Net_fetch) 1 (pc' := 55) (lv' := [(3, .ref z1), (0, .ref v0), (2, .int v2)]) (st' := [.ref v0]) rfl ?_
          refine x_gQ e rfl rfl fd_6_15 rfl (fun z9 e => ?_)
          refine x_cv0 (As := []) (rest := []) e rfl rfl rfl rfl rfl rfl (fun h => d_Address_dropMark h ⟨rfl, rfl⟩) (fun g10 e => ?_)
          refine wp_p (j := J_Net_fetch) 2 (pc' := 17) (lv' := [(2, .int (v2 + 1)), (3, .ref z1), (0, .ref v0)]) (st' := []) rfl ?_
          have e := Option.some.inj e; subst e; exact wp_lv (lv' := [(0, .ref v0), (2, .int (v2 + 1))]) rfl ⟨rfl, rfl, trivial⟩ c
      · refine wp_p (j := J_Net_fetch) 2 (pc' := 17) (lv' := [(2, .int (v2 + 1)), (3, .ref z1), (0, .ref v0)]) (st' := []) rfl ?_
        have e := Option.some.inj e; subst e; exact wp_lv (lv' := [(0, .ref v0), (2, .int (v2 + 1))]) rfl ⟨rfl, rfl, trivial⟩ c
noncomputable def L_Net_fetch_17 (v0 : Nat) (v2 : Int32) (g : g_S) : Option ((Nat × g_S) ⊕ (g_S)) := it (fun s : Int32 × g_S => b_Net_fetch_17 v0 s.1 s.2) (v2, g)
theorem l_Net_fetch_17 {L : Nat} {xs : Nat → Int32} {Q : Option Value → ab_H → Prop} {v0 : Nat} {v2 : Int32} {g : g_S} {r : (Nat × g_S) ⊕ (g_S)} (e : L_Net_fetch_17 v0 v2 g = some r) (c : cL_Net_fetch_17 L xs Q v0 (.inr r)) : wp (ab_ext L xs) J_Net_fetch 17 [(0, .ref v0), (2, .int v2)] [] (hp g) Q :=
  it_wp (P := fun s : Int32 × g_S => wp (ab_ext L xs) J_Net_fetch 17 [(0, .ref v0), (2, .int s.1)] [] (hp s.2) Q) (E := fun r => cL_Net_fetch_17 L xs Q v0 (.inr r)) (fun s out e c => y_Net_fetch_17 e (by cases out <;> exact c)) e c
theorem L_Net_fetch_17_eq (v0 : Nat) (v2 : Int32) (g : g_S) : L_Net_fetch_17 v0 v2 g = itc (b_Net_fetch_17 v0 v2 g) (fun s => L_Net_fetch_17 v0 s.1 s.2) := it_eq2 (fun s : Int32 × g_S => b_Net_fetch_17 v0 s.1 s.2) (v2, g)
noncomputable def M_Net_fetch (v0 : Nat) (v1 : Nat) (g : g_S) : Option (Nat × g_S) :=
  (rQ g 106 v0 15).bind fun z1 =>
  (vc g 101 z1 (M_Address_copy z1 v1 g)).bind fun g2 =>
  (rQ g2 106 v0 15).bind fun z3 =>
  (vc g2 101 z3 (M_Address_dropMark z3 g2)).bind fun g4 =>
  (L_Net_fetch_17 v0 1 g4).bind <|
    us (u2 fun z7 g8 =>
    some (z7, g8))
    (fun g9 =>
    (rQ g9 106 v0 0).bind fun z10 =>
    some (z10, g9))
set_option maxRecDepth 20000 in
theorem d_Net_fetch {L : Nat} {xs : Nat → Int32} {Q : Option Value → ab_H → Prop} {v0 : Nat} {v1 : Nat} {g : g_S} {out : Nat × g_S} (e : M_Net_fetch v0 v1 g = some out) (c : Q (some (.ref out.1)) (hp out.2)) : mw (ab_ext L xs) J_Net_fetch [.ref v0, .ref v1] (hp g) Q := by
  unfold M_Net_fetch at e
  refine wp_p (j := J_Net_fetch) 1 (pc' := 1) (lv' := [(0, .ref v0), (1, .ref v1)]) (st' := [.ref v0]) rfl ?_
  refine x_gQ e rfl rfl fd_6_15 rfl (fun z1 e => ?_)
  refine wp_p (j := J_Net_fetch) 1 (pc' := 5) (lv' := [(0, .ref v0), (1, .ref v1)]) (st' := [.ref v1, .ref z1]) rfl ?_
  refine x_cv0 (As := [.ref v1]) (rest := []) e rfl rfl rfl rfl rfl rfl (fun h => d_Address_copy h ⟨rfl, rfl⟩) (fun g2 e => ?_)
  refine wp_p (j := J_Net_fetch) 1 (pc' := 9) (lv' := [(0, .ref v0), (1, .ref v1)]) (st' := [.ref v0]) rfl ?_
  refine x_gQ e rfl rfl fd_6_15 rfl (fun z3 e => ?_)
  refine x_cv0 (As := []) (rest := []) e rfl rfl rfl rfl rfl rfl (fun h => d_Address_dropMark h ⟨rfl, rfl⟩) (fun g4 e => ?_)
  refine wp_p (j := J_Net_fetch) 2 (pc' := 17) (lv' := [(2, .int 1), (0, .ref v0), (1, .ref v1)]) (st' := []) rfl ?_
  obtain ⟨s5, h6, e⟩ := bd e
  refine wp_lv (lv' := [(0, .ref v0), (2, .int 1)]) rfl ⟨rfl, rfl, trivial⟩ ?_
  refine l_Net_fetch_17 h6 ?_
  rcases s5 with ⟨z7, g8⟩ | g9
  · replace e := (u2_e (us_l e))
    show wp (ab_ext L xs) J_Net_fetch 35 [(3, .ref z7)] [] (hp g8) Q
    refine wp_p (j := J_Net_fetch) 1 (pc' := 36) (lv' := [(3, .ref z7)]) (st' := [.ref z7]) rfl ?_
    have e := Option.some.inj e; subst e; exact wp_r rfl rfl rfl rfl rfl c
  · replace e := (us_r e)
    show wp (ab_ext L xs) J_Net_fetch 67 [(0, .ref v0)] [] (hp g9) Q
    refine wp_p (j := J_Net_fetch) 1 (pc' := 68) (lv' := [(0, .ref v0)]) (st' := [.ref v0]) rfl ?_
    refine x_gQ e rfl rfl fd_6_0 rfl (fun z10 e => ?_)
    have e := Option.some.inj e; subst e; exact wp_r rfl rfl rfl rfl rfl c
noncomputable def M_Address_takeMark (v0 : Nat) (v1 : Nat) (g : g_S) : Option g_S :=
  (rI g 101 v1 5).bind fun z1 =>
  (rI g 101 v1 4).bind fun z2 =>
  (rQ g 101 v1 0).bind fun z3 =>
  (rI g 101 v1 4).bind fun z4 =>
  (rQ g 101 v0 0).bind fun z5 =>
  (rI g 101 v0 4).bind fun z6 =>
  (cp g 1 z3 z4 z5 z6 (z1 - z2)).bind fun g7 =>
  (rI g7 101 v0 4).bind fun z8 =>
  (wI g7 101 v0 5 (z8 + (z1 - z2))).bind fun g9 =>
  some g9
set_option maxRecDepth 20000 in
theorem d_Address_takeMark {L : Nat} {xs : Nat → Int32} {Q : Option Value → ab_H → Prop} {v0 : Nat} {v1 : Nat} {g : g_S} {out : g_S} (e : M_Address_takeMark v0 v1 g = some out) (c : Q none (hp out)) : mw (ab_ext L xs) J_Address_takeMark [.ref v0, .ref v1] (hp g) Q := by
  unfold M_Address_takeMark at e
  refine wp_p (j := J_Address_takeMark) 1 (pc' := 1) (lv' := [(0, .ref v0), (1, .ref v1)]) (st' := [.ref v1]) rfl ?_
  refine x_gI e rfl rfl fd_1_5 rfl (fun z1 e => ?_)
  refine wp_p (j := J_Address_takeMark) 1 (pc' := 5) (lv' := [(0, .ref v0), (1, .ref v1)]) (st' := [.ref v1, .int z1]) rfl ?_
  refine x_gI e rfl rfl fd_1_4 rfl (fun z2 e => ?_)
  refine wp_p (j := J_Address_takeMark) 3 (pc' := 11) (lv' := [(2, .int (z1 - z2)), (0, .ref v0), (1, .ref v1)]) (st' := [.ref v1]) rfl ?_
  refine x_gQ e rfl rfl fd_1_0 rfl (fun z3 e => ?_)
  refine wp_p (j := J_Address_takeMark) 1 (pc' := 15) (lv' := [(2, .int (z1 - z2)), (0, .ref v0), (1, .ref v1)]) (st' := [.ref v1, .ref z3]) rfl ?_
  refine x_gI e rfl rfl fd_1_4 rfl (fun z4 e => ?_)
  refine wp_p (j := J_Address_takeMark) 1 (pc' := 19) (lv' := [(2, .int (z1 - z2)), (0, .ref v0), (1, .ref v1)]) (st' := [.ref v0, .int z4, .ref z3]) rfl ?_
  refine x_gQ e rfl rfl fd_1_0 rfl (fun z5 e => ?_)
  refine wp_p (j := J_Address_takeMark) 1 (pc' := 23) (lv' := [(2, .int (z1 - z2)), (0, .ref v0), (1, .ref v1)]) (st' := [.ref v0, .ref z5, .int z4, .ref z3]) rfl ?_
  refine x_gI e rfl rfl fd_1_4 rfl (fun z6 e => ?_)
  refine wp_p (j := J_Address_takeMark) 1 (pc' := 27) (lv' := [(2, .int (z1 - z2)), (0, .ref v0), (1, .ref v1)]) (st' := [.int (z1 - z2), .int z6, .ref z5, .int z4, .ref z3]) rfl ?_
  refine x_cp e rfl (.inr rfl) rfl (fun g7 e => ?_)
  refine wp_p (j := J_Address_takeMark) 2 (pc' := 32) (lv' := [(2, .int (z1 - z2)), (0, .ref v0), (1, .ref v1)]) (st' := [.ref v0, .ref v0]) rfl ?_
  refine x_gI e rfl rfl fd_1_4 rfl (fun z8 e => ?_)
  refine wp_p (j := J_Address_takeMark) 2 (pc' := 37) (lv' := [(2, .int (z1 - z2)), (0, .ref v0), (1, .ref v1)]) (st' := [.int (z8 + (z1 - z2)), .ref v0]) rfl ?_
  refine x_pI e rfl rfl fw_1_5 rfl (fun g9 e => ?_)
  have e := Option.some.inj e; subst e; exact wp_vret rfl rfl c
noncomputable def k_Net_arrive_43 (v0 : Nat) (v1 : Nat) (g : g_S) : Option (Nat × g_S) :=
  (wI g 106 v0 16 0).bind fun g1 =>
  some (v1, g1)
set_option maxRecDepth 20000 in
theorem x_Net_arrive_43 {L : Nat} {xs : Nat → Int32} {Q : Option Value → ab_H → Prop} {v0 : Nat} {v1 : Nat} {g : g_S} {out : Nat × g_S} (e : k_Net_arrive_43 v0 v1 g = some out) (c : Q (some (.ref out.1)) (hp out.2)) : wp (ab_ext L xs) J_Net_arrive 43 [(0, .ref v0), (1, .ref v1)] [] (hp g) Q := by
  unfold k_Net_arrive_43 at e
  refine wp_p (j := J_Net_arrive) 2 (pc' := 45) (lv' := [(0, .ref v0), (1, .ref v1)]) (st' := [.int 0, .ref v0]) rfl ?_
  refine x_pI e rfl rfl fw_6_16 rfl (fun g1 e => ?_)
  refine wp_p (j := J_Net_arrive) 1 (pc' := 49) (lv' := [(0, .ref v0), (1, .ref v1)]) (st' := [.ref v1]) rfl ?_
  have e := Option.some.inj e; subst e; exact wp_r rfl rfl rfl rfl rfl c
noncomputable def M_Net_arrive (v0 : Nat) (g : g_S) : Option (Nat × g_S) :=
  (rQ g 106 v0 14).bind fun z1 =>
  c2 (vc g 106 v0 (M_Net_fetch v0 z1 g)) fun z2 g3 =>
  (rQ g3 106 v0 13).bind fun z4 =>
  (rQ g3 106 v0 15).bind fun z5 =>
  (vc g3 101 z4 (M_Address_copy z4 z5 g3)).bind fun g6 =>
  (rQ g6 106 v0 13).bind fun z7 =>
  (rQ g6 106 v0 14).bind fun z8 =>
  (vc g6 101 z7 (M_Address_takeMark z7 z8 g6)).bind fun g9 =>
  (rI g9 106 v0 16).bind fun z10 =>
  if z10 = 1 then
    (vc g9 106 v0 (M_Net_pushHistory v0 g9)).bind fun g11 =>
    k_Net_arrive_43 v0 z2 g11
  else
    k_Net_arrive_43 v0 z2 g9
set_option maxRecDepth 20000 in
theorem d_Net_arrive {L : Nat} {xs : Nat → Int32} {Q : Option Value → ab_H → Prop} {v0 : Nat} {g : g_S} {out : Nat × g_S} (e : M_Net_arrive v0 g = some out) (c : Q (some (.ref out.1)) (hp out.2)) : mw (ab_ext L xs) J_Net_arrive [.ref v0] (hp g) Q := by
  unfold M_Net_arrive at e
  refine wp_p (j := J_Net_arrive) 2 (pc' := 2) (lv' := [(0, .ref v0)]) (st' := [.ref v0, .ref v0]) rfl ?_
  refine x_gQ e rfl rfl fd_6_14 rfl (fun z1 e => ?_)
  refine x_cv2 (As := [.ref z1]) (rest := []) Value.ref e rfl rfl rfl rfl rfl rfl (fun h => d_Net_fetch h ⟨rfl, rfl⟩) (fun z2 g3 e => ?_)
  refine wp_p (j := J_Net_arrive) 2 (pc' := 10) (lv' := [(1, .ref z2), (0, .ref v0)]) (st' := [.ref v0]) rfl ?_
  refine x_gQ e rfl rfl fd_6_13 rfl (fun z4 e => ?_)
  refine wp_p (j := J_Net_arrive) 1 (pc' := 14) (lv' := [(1, .ref z2), (0, .ref v0)]) (st' := [.ref v0, .ref z4]) rfl ?_
  refine x_gQ e rfl rfl fd_6_15 rfl (fun z5 e => ?_)
  refine x_cv0 (As := [.ref z5]) (rest := []) e rfl rfl rfl rfl rfl rfl (fun h => d_Address_copy h ⟨rfl, rfl⟩) (fun g6 e => ?_)
  refine wp_p (j := J_Net_arrive) 1 (pc' := 21) (lv' := [(1, .ref z2), (0, .ref v0)]) (st' := [.ref v0]) rfl ?_
  refine x_gQ e rfl rfl fd_6_13 rfl (fun z7 e => ?_)
  refine wp_p (j := J_Net_arrive) 1 (pc' := 25) (lv' := [(1, .ref z2), (0, .ref v0)]) (st' := [.ref v0, .ref z7]) rfl ?_
  refine x_gQ e rfl rfl fd_6_14 rfl (fun z8 e => ?_)
  refine x_cv0 (As := [.ref z8]) (rest := []) e rfl rfl rfl rfl rfl rfl (fun h => d_Address_takeMark h ⟨rfl, rfl⟩) (fun g9 e => ?_)
  refine wp_p (j := J_Net_arrive) 1 (pc' := 32) (lv' := [(1, .ref z2), (0, .ref v0)]) (st' := [.ref v0]) rfl ?_
  refine x_gI e rfl rfl fd_6_16 rfl (fun z10 e => ?_)
  refine wp_p (j := J_Net_arrive) 1 (pc' := 36) (lv' := [(1, .ref z2), (0, .ref v0)]) (st' := [.int 1, .int z10]) rfl ?_
  refine x_ne e rfl (fun e => ?_) (fun e => ?_)
  · refine wp_p (j := J_Net_arrive) 1 (pc' := 40) (lv' := [(1, .ref z2), (0, .ref v0)]) (st' := [.ref v0]) rfl ?_
    refine x_cv0 (As := []) (rest := []) e rfl rfl rfl rfl rfl rfl (fun h => d_Net_pushHistory h ⟨rfl, rfl⟩) (fun g11 e => ?_)
    exact wp_lv (lv' := [(0, .ref v0), (1, .ref z2)]) rfl ⟨rfl, rfl, trivial⟩ (x_Net_arrive_43 e c)
  · exact wp_lv (lv' := [(0, .ref v0), (1, .ref z2)]) rfl ⟨rfl, rfl, trivial⟩ (x_Net_arrive_43 e c)
def cL_Reader_isBlankRun_2 (L : Nat) (xs : Nat → Int32) (Q : Option Value → ab_H → Prop) (v0 : Nat) (v2 : Int32) (g : g_S) (out : (Int32) ⊕ ((Unit) ⊕ (Unit))) : Prop := match out with
  | .inl s => wp (ab_ext L xs) J_Reader_isBlankRun 2 [(0, .ref v0), (2, .int v2), (3, .int s)] [] (hp g) Q
  | .inr (.inl s) => wp (ab_ext L xs) J_Reader_isBlankRun 19 [] [] (hp g) Q
  | .inr (.inr s) => wp (ab_ext L xs) J_Reader_isBlankRun 27 [] [] (hp g) Q
noncomputable def b_Reader_isBlankRun_2 (v0 : Nat) (v2 : Int32) (v3 : Int32) (g : g_S) : Option ((Int32) ⊕ ((Unit) ⊕ (Unit))) :=
  if v3 < v2 then
    (rQ g 108 v0 8).bind fun z1 =>
    (aI g 1 z1 v3).bind fun z2 =>
    (M_Bytes_isBlank z2 g).bind fun z3 =>
    if z3 = 0 then
      some (.inr (.inl ()))
    else
      some (.inl (v3 + 1))
  else
    some (.inr (.inr ()))
set_option maxRecDepth 20000 in
theorem y_Reader_isBlankRun_2 {L : Nat} {xs : Nat → Int32} {Q : Option Value → ab_H → Prop} {v0 : Nat} {v2 : Int32} {v3 : Int32} {g : g_S} {out : (Int32) ⊕ ((Unit) ⊕ (Unit))} (e : b_Reader_isBlankRun_2 v0 v2 v3 g = some out) (c : cL_Reader_isBlankRun_2 L xs Q v0 v2 g out) : wp (ab_ext L xs) J_Reader_isBlankRun 2 [(0, .ref v0), (2, .int v2), (3, .int v3)] [] (hp g) Q := by
  unfold b_Reader_isBlankRun_2 at e
  refine wp_p (j := J_Reader_isBlankRun) 2 (pc' := 4) (lv' := [(0, .ref v0), (2, .int v2), (3, .int v3)]) (st' := [.int v2, .int v3]) rfl ?_
  refine x_ge e rfl (fun e => ?_) (fun e => ?_)
  · refine wp_p (j := J_Reader_isBlankRun) 1 (pc' := 8) (lv' := [(0, .ref v0), (2, .int v2), (3, .int v3)]) (st' := [.ref v0]) rfl ?_
    refine x_gQ e rfl rfl fd_8_8 rfl (fun z1 e => ?_)
    refine wp_p (j := J_Reader_isBlankRun) 1 (pc' := 12) (lv' := [(0, .ref v0), (2, .int v2), (3, .int v3)]) (st' := [.int v3, .ref z1]) rfl ?_
    refine x_aB e rfl (.inl rfl) rfl (fun z2 e => ?_)
    refine x_cs1 (As := [.int z2]) (rest := []) Value.int e rfl rfl rfl rfl rfl (fun h => d_Bytes_isBlank h ⟨rfl, rfl⟩) (fun z3 e => ?_)
    refine z_ne e rfl (fun e => ?_) (fun e => ?_)
    · have e := Option.some.inj e; subst e; exact wp_lv (lv' := []) rfl trivial c
    · refine wp_p (j := J_Reader_isBlankRun) 2 (pc' := 2) (lv' := [(3, .int (v3 + 1)), (0, .ref v0), (2, .int v2)]) (st' := []) rfl ?_
      have e := Option.some.inj e; subst e; exact wp_lv (lv' := [(0, .ref v0), (2, .int v2), (3, .int (v3 + 1))]) rfl ⟨rfl, rfl, rfl, trivial⟩ c
  · have e := Option.some.inj e; subst e; exact wp_lv (lv' := []) rfl trivial c
noncomputable def L_Reader_isBlankRun_2 (v0 : Nat) (v2 : Int32) (v3 : Int32) (g : g_S) : Option ((Unit) ⊕ (Unit)) := it (fun s : Int32 => b_Reader_isBlankRun_2 v0 v2 s g) (v3)
theorem l_Reader_isBlankRun_2 {L : Nat} {xs : Nat → Int32} {Q : Option Value → ab_H → Prop} {v0 : Nat} {v2 : Int32} {v3 : Int32} {g : g_S} {r : (Unit) ⊕ (Unit)} (e : L_Reader_isBlankRun_2 v0 v2 v3 g = some r) (c : cL_Reader_isBlankRun_2 L xs Q v0 v2 g (.inr r)) : wp (ab_ext L xs) J_Reader_isBlankRun 2 [(0, .ref v0), (2, .int v2), (3, .int v3)] [] (hp g) Q :=
  it_wp (P := fun s : Int32 => wp (ab_ext L xs) J_Reader_isBlankRun 2 [(0, .ref v0), (2, .int v2), (3, .int s)] [] (hp g) Q) (E := fun r => cL_Reader_isBlankRun_2 L xs Q v0 v2 g (.inr r)) (fun s out e c => y_Reader_isBlankRun_2 e (by cases out <;> exact c)) e c
theorem L_Reader_isBlankRun_2_eq (v0 : Nat) (v2 : Int32) (v3 : Int32) (g : g_S) : L_Reader_isBlankRun_2 v0 v2 v3 g = itc (b_Reader_isBlankRun_2 v0 v2 v3 g) (fun s => L_Reader_isBlankRun_2 v0 v2 s g) := it_eq2 (fun s : Int32 => b_Reader_isBlankRun_2 v0 v2 s g) (v3)
noncomputable def M_Reader_isBlankRun (v0 : Nat) (v1 : Int32) (v2 : Int32) (g : g_S) : Option Int32 :=
  (L_Reader_isBlankRun_2 v0 v2 v1 g).bind <|
    us (fun _ =>
    some 0)
    (fun _ =>
    some 1)
set_option maxRecDepth 20000 in
theorem d_Reader_isBlankRun {L : Nat} {xs : Nat → Int32} {Q : Option Value → ab_H → Prop} {v0 : Nat} {v1 : Int32} {v2 : Int32} {g : g_S} {out : Int32} (e : M_Reader_isBlankRun v0 v1 v2 g = some out) (c : Q (some (.int out)) (hp g)) : mw (ab_ext L xs) J_Reader_isBlankRun [.ref v0, .int v1, .int v2] (hp g) Q := by
  unfold M_Reader_isBlankRun at e
  refine wp_p (j := J_Reader_isBlankRun) 2 (pc' := 2) (lv' := [(3, .int v1), (0, .ref v0), (1, .int v1), (2, .int v2)]) (st' := []) rfl ?_
  obtain ⟨s1, h2, e⟩ := bd e
  refine wp_lv (lv' := [(0, .ref v0), (2, .int v2), (3, .int v1)]) rfl ⟨rfl, rfl, rfl, trivial⟩ ?_
  refine l_Reader_isBlankRun_2 h2 ?_
  rcases s1 with _ | _
  · replace e := (us_l e)
    show wp (ab_ext L xs) J_Reader_isBlankRun 19 [] [] (hp g) Q
    refine wp_p (j := J_Reader_isBlankRun) 1 (pc' := 20) (lv' := []) (st' := [.int 0]) rfl ?_
    have e := Option.some.inj e; subst e; exact wp_iret (ty := .boolean) rfl rfl (by decide) c
  · replace e := (us_r e)
    show wp (ab_ext L xs) J_Reader_isBlankRun 27 [] [] (hp g) Q
    refine wp_p (j := J_Reader_isBlankRun) 1 (pc' := 28) (lv' := []) (st' := [.int 1]) rfl ?_
    have e := Option.some.inj e; subst e; exact wp_iret (ty := .boolean) rfl rfl (by decide) c
noncomputable def M_Tree_hasRoom (v0 : Nat) (v1 : Int32) (g : g_S) : Option Int32 :=
  (rI g 110 v0 5).bind fun z1 =>
  if z1 < 120 then
    (rQ g 110 v0 0).bind fun z2 =>
    (aQ g 5 z2 v1).bind fun z3 =>
    (rI g 107 z3 7).bind fun z4 =>
    if z4 < 20 then
      some 1
    else
      some 0
  else
    some 0
set_option maxRecDepth 20000 in
theorem d_Tree_hasRoom {L : Nat} {xs : Nat → Int32} {Q : Option Value → ab_H → Prop} {v0 : Nat} {v1 : Int32} {g : g_S} {out : Int32} (e : M_Tree_hasRoom v0 v1 g = some out) (c : Q (some (.int out)) (hp g)) : mw (ab_ext L xs) J_Tree_hasRoom [.ref v0, .int v1] (hp g) Q := by
  unfold M_Tree_hasRoom at e
  refine wp_p (j := J_Tree_hasRoom) 1 (pc' := 1) (lv' := [(0, .ref v0), (1, .int v1)]) (st' := [.ref v0]) rfl ?_
  refine x_gI e rfl rfl fd_10_5 rfl (fun z1 e => ?_)
  refine wp_p (j := J_Tree_hasRoom) 1 (pc' := 6) (lv' := [(0, .ref v0), (1, .int v1)]) (st' := [.int 120, .int z1]) rfl ?_
  refine x_ge e rfl (fun e => ?_) (fun e => ?_)
  · refine wp_p (j := J_Tree_hasRoom) 1 (pc' := 10) (lv' := [(0, .ref v0), (1, .int v1)]) (st' := [.ref v0]) rfl ?_
    refine x_gQ e rfl rfl fd_10_0 rfl (fun z2 e => ?_)
    refine wp_p (j := J_Tree_hasRoom) 1 (pc' := 14) (lv' := [(0, .ref v0), (1, .int v1)]) (st' := [.int v1, .ref z2]) rfl ?_
    refine x_aQ e rfl rfl rfl (fun z3 e => ?_)
    refine x_gI e rfl rfl fd_7_7 rfl (fun z4 e => ?_)
    refine wp_p (j := J_Tree_hasRoom) 1 (pc' := 20) (lv' := [(0, .ref v0), (1, .int v1)]) (st' := [.int 20, .int z4]) rfl ?_
    refine x_ge e rfl (fun e => ?_) (fun e => ?_)
    · refine wp_p (j := J_Tree_hasRoom) 2 (pc' := 28) (lv' := [(0, .ref v0), (1, .int v1)]) (st' := [.int 1]) rfl ?_
      have e := Option.some.inj e; subst e; exact wp_iret (ty := .boolean) rfl rfl (by decide) c
    · refine wp_p (j := J_Tree_hasRoom) 1 (pc' := 28) (lv' := [(0, .ref v0), (1, .int v1)]) (st' := [.int 0]) rfl ?_
      have e := Option.some.inj e; subst e; exact wp_iret (ty := .boolean) rfl rfl (by decide) c
  · refine wp_p (j := J_Tree_hasRoom) 1 (pc' := 28) (lv' := [(0, .ref v0), (1, .int v1)]) (st' := [.int 0]) rfl ?_
    have e := Option.some.inj e; subst e; exact wp_iret (ty := .boolean) rfl rfl (by decide) c
noncomputable def k_Reader_tell_29 (v0 : Nat) (g : g_S) : Option g_S :=
  (rI g 108 v0 3).bind fun z1 =>
  (wI g 108 v0 3 (z1 + 1)).bind fun g2 =>
  some g2
set_option maxRecDepth 20000 in
theorem x_Reader_tell_29 {L : Nat} {xs : Nat → Int32} {Q : Option Value → ab_H → Prop} {v0 : Nat} {g : g_S} {out : g_S} (e : k_Reader_tell_29 v0 g = some out) (c : Q none (hp out)) : wp (ab_ext L xs) J_Reader_tell 29 [(0, .ref v0)] [] (hp g) Q := by
  unfold k_Reader_tell_29 at e
  refine wp_p (j := J_Reader_tell) 2 (pc' := 31) (lv' := [(0, .ref v0)]) (st' := [.ref v0, .ref v0]) rfl ?_
  refine x_gI e rfl rfl fd_8_3 rfl (fun z1 e => ?_)
  refine wp_p (j := J_Reader_tell) 2 (pc' := 36) (lv' := [(0, .ref v0)]) (st' := [.int (z1 + 1), .ref v0]) rfl ?_
  refine x_pI e rfl rfl fw_8_3 rfl (fun g2 e => ?_)
  have e := Option.some.inj e; subst e; exact wp_vret rfl rfl c
noncomputable def M_Reader_tell (v0 : Nat) (v1 : Int32) (v2 : Int32) (g : g_S) : Option g_S :=
  (rI g 108 v0 3).bind fun z1 =>
  if z1 < 40 then
    (rQ g 108 v0 1).bind fun z2 =>
    (rI g 108 v0 3).bind fun z3 =>
    (sI g z2 z3 v1).bind fun g4 =>
    (rQ g4 108 v0 2).bind fun z5 =>
    (rI g4 108 v0 3).bind fun z6 =>
    (sI g4 z5 z6 v2).bind fun g7 =>
    k_Reader_tell_29 v0 g7
  else
    k_Reader_tell_29 v0 g
set_option maxRecDepth 20000 in
theorem d_Reader_tell {L : Nat} {xs : Nat → Int32} {Q : Option Value → ab_H → Prop} {v0 : Nat} {v1 : Int32} {v2 : Int32} {g : g_S} {out : g_S} (e : M_Reader_tell v0 v1 v2 g = some out) (c : Q none (hp out)) : mw (ab_ext L xs) J_Reader_tell [.ref v0, .int v1, .int v2] (hp g) Q := by
  unfold M_Reader_tell at e
  refine wp_p (j := J_Reader_tell) 1 (pc' := 1) (lv' := [(0, .ref v0), (1, .int v1), (2, .int v2)]) (st' := [.ref v0]) rfl ?_
  refine x_gI e rfl rfl fd_8_3 rfl (fun z1 e => ?_)
  refine wp_p (j := J_Reader_tell) 1 (pc' := 6) (lv' := [(0, .ref v0), (1, .int v1), (2, .int v2)]) (st' := [.int 40, .int z1]) rfl ?_
  refine x_ge e rfl (fun e => ?_) (fun e => ?_)
  · refine wp_p (j := J_Reader_tell) 1 (pc' := 10) (lv' := [(0, .ref v0), (1, .int v1), (2, .int v2)]) (st' := [.ref v0]) rfl ?_
    refine x_gQ e rfl rfl fd_8_1 rfl (fun z2 e => ?_)
    refine wp_p (j := J_Reader_tell) 1 (pc' := 14) (lv' := [(0, .ref v0), (1, .int v1), (2, .int v2)]) (st' := [.ref v0, .ref z2]) rfl ?_
    refine x_gI e rfl rfl fd_8_3 rfl (fun z3 e => ?_)
    refine wp_p (j := J_Reader_tell) 1 (pc' := 18) (lv' := [(0, .ref v0), (1, .int v1), (2, .int v2)]) (st' := [.int v1, .int z3, .ref z2]) rfl ?_
    refine x_sI e rfl rfl (fun g4 e => ?_)
    refine wp_p (j := J_Reader_tell) 1 (pc' := 20) (lv' := [(0, .ref v0), (1, .int v1), (2, .int v2)]) (st' := [.ref v0]) rfl ?_
    refine x_gQ e rfl rfl fd_8_2 rfl (fun z5 e => ?_)
    refine wp_p (j := J_Reader_tell) 1 (pc' := 24) (lv' := [(0, .ref v0), (1, .int v1), (2, .int v2)]) (st' := [.ref v0, .ref z5]) rfl ?_
    refine x_gI e rfl rfl fd_8_3 rfl (fun z6 e => ?_)
    refine wp_p (j := J_Reader_tell) 1 (pc' := 28) (lv' := [(0, .ref v0), (1, .int v1), (2, .int v2)]) (st' := [.int v2, .int z6, .ref z5]) rfl ?_
    refine x_sI e rfl rfl (fun g7 e => ?_)
    exact wp_lv (lv' := [(0, .ref v0)]) rfl ⟨rfl, trivial⟩ (x_Reader_tell_29 e c)
  · exact wp_lv (lv' := [(0, .ref v0)]) rfl ⟨rfl, trivial⟩ (x_Reader_tell_29 e c)
noncomputable def M_Reader_entityLength (v0 : Nat) (v1 : Int32) (v2 : Int32) (g : g_S) : Option Int32 :=
  (rQ g 108 v0 8).bind fun z1 =>
  (M_Bytes_stands 1000011 z1 v1 v2 g).bind fun z2 =>
  if z2 = 0 then
    (rQ g 108 v0 8).bind fun z3 =>
    (M_Bytes_stands 1000012 z3 v1 v2 g).bind fun z4 =>
    if z4 = 0 then
      (rQ g 108 v0 8).bind fun z5 =>
      (M_Bytes_stands 1000013 z5 v1 v2 g).bind fun z6 =>
      if z6 = 0 then
        (rQ g 108 v0 8).bind fun z7 =>
        (M_Bytes_stands 1000014 z7 v1 v2 g).bind fun z8 =>
        if z8 = 0 then
          some 1
        else
          some 6
      else
        some 5
    else
      some 4
  else
    some 4
set_option maxRecDepth 20000 in
theorem d_Reader_entityLength {L : Nat} {xs : Nat → Int32} {Q : Option Value → ab_H → Prop} {v0 : Nat} {v1 : Int32} {v2 : Int32} {g : g_S} {out : Int32} (e : M_Reader_entityLength v0 v1 v2 g = some out) (c : Q (some (.int out)) (hp g)) : mw (ab_ext L xs) J_Reader_entityLength [.ref v0, .int v1, .int v2] (hp g) Q := by
  unfold M_Reader_entityLength at e
  refine x_ls rfl rfl ?_
  refine wp_p (j := J_Reader_entityLength) 1 (pc' := 3) (lv' := [(0, .ref v0), (1, .int v1), (2, .int v2)]) (st' := [.ref v0, .ref 1000011]) rfl ?_
  refine x_gQ e rfl rfl fd_8_8 rfl (fun z1 e => ?_)
  refine wp_p (j := J_Reader_entityLength) 2 (pc' := 8) (lv' := [(0, .ref v0), (1, .int v1), (2, .int v2)]) (st' := [.int v2, .int v1, .ref z1, .ref 1000011]) rfl ?_
  refine x_cs1 (As := [.ref 1000011, .ref z1, .int v1, .int v2]) (rest := []) Value.int e rfl rfl rfl rfl rfl (fun h => d_Bytes_stands h ⟨rfl, rfl⟩) (fun z2 e => ?_)
  refine z_ne e rfl (fun e => ?_) (fun e => ?_)
  · refine x_ls rfl rfl ?_
    refine wp_p (j := J_Reader_entityLength) 1 (pc' := 17) (lv' := [(0, .ref v0), (1, .int v1), (2, .int v2)]) (st' := [.ref v0, .ref 1000012]) rfl ?_
    refine x_gQ e rfl rfl fd_8_8 rfl (fun z3 e => ?_)
    refine wp_p (j := J_Reader_entityLength) 2 (pc' := 22) (lv' := [(0, .ref v0), (1, .int v1), (2, .int v2)]) (st' := [.int v2, .int v1, .ref z3, .ref 1000012]) rfl ?_
    refine x_cs1 (As := [.ref 1000012, .ref z3, .int v1, .int v2]) (rest := []) Value.int e rfl rfl rfl rfl rfl (fun h => d_Bytes_stands h ⟨rfl, rfl⟩) (fun z4 e => ?_)
    refine z_eq e rfl (fun e => ?_) (fun e => ?_)
    · refine x_ls rfl rfl ?_
      refine wp_p (j := J_Reader_entityLength) 1 (pc' := 33) (lv' := [(0, .ref v0), (1, .int v1), (2, .int v2)]) (st' := [.ref v0, .ref 1000013]) rfl ?_
      refine x_gQ e rfl rfl fd_8_8 rfl (fun z5 e => ?_)
      refine wp_p (j := J_Reader_entityLength) 2 (pc' := 38) (lv' := [(0, .ref v0), (1, .int v1), (2, .int v2)]) (st' := [.int v2, .int v1, .ref z5, .ref 1000013]) rfl ?_
      refine x_cs1 (As := [.ref 1000013, .ref z5, .int v1, .int v2]) (rest := []) Value.int e rfl rfl rfl rfl rfl (fun h => d_Bytes_stands h ⟨rfl, rfl⟩) (fun z6 e => ?_)
      refine z_eq e rfl (fun e => ?_) (fun e => ?_)
      · refine x_ls rfl rfl ?_
        refine wp_p (j := J_Reader_entityLength) 1 (pc' := 49) (lv' := [(0, .ref v0), (1, .int v1), (2, .int v2)]) (st' := [.ref v0, .ref 1000014]) rfl ?_
        refine x_gQ e rfl rfl fd_8_8 rfl (fun z7 e => ?_)
        refine wp_p (j := J_Reader_entityLength) 2 (pc' := 54) (lv' := [(0, .ref v0), (1, .int v1), (2, .int v2)]) (st' := [.int v2, .int v1, .ref z7, .ref 1000014]) rfl ?_
        refine x_cs1 (As := [.ref 1000014, .ref z7, .int v1, .int v2]) (rest := []) Value.int e rfl rfl rfl rfl rfl (fun h => d_Bytes_stands h ⟨rfl, rfl⟩) (fun z8 e => ?_)
        refine z_eq e rfl (fun e => ?_) (fun e => ?_)
        · refine wp_p (j := J_Reader_entityLength) 1 (pc' := 66) (lv' := [(0, .ref v0), (1, .int v1), (2, .int v2)]) (st' := [.int 1]) rfl ?_
          have e := Option.some.inj e; subst e; exact wp_iret (ty := .int) rfl rfl rfl c
        · refine wp_p (j := J_Reader_entityLength) 2 (pc' := 66) (lv' := [(0, .ref v0), (1, .int v1), (2, .int v2)]) (st' := [.int 6]) rfl ?_
          have e := Option.some.inj e; subst e; exact wp_iret (ty := .int) rfl rfl rfl c
      · refine wp_p (j := J_Reader_entityLength) 1 (pc' := 45) (lv' := [(0, .ref v0), (1, .int v1), (2, .int v2)]) (st' := [.int 5]) rfl ?_
        have e := Option.some.inj e; subst e; exact wp_iret (ty := .int) rfl rfl rfl c
    · refine wp_p (j := J_Reader_entityLength) 1 (pc' := 29) (lv' := [(0, .ref v0), (1, .int v1), (2, .int v2)]) (st' := [.int 4]) rfl ?_
      have e := Option.some.inj e; subst e; exact wp_iret (ty := .int) rfl rfl rfl c
  · refine wp_p (j := J_Reader_entityLength) 1 (pc' := 29) (lv' := [(0, .ref v0), (1, .int v1), (2, .int v2)]) (st' := [.int 4]) rfl ?_
    have e := Option.some.inj e; subst e; exact wp_iret (ty := .int) rfl rfl rfl c
noncomputable def M_Reader_entityByte (v0 : Nat) (v1 : Int32) (g : g_S) : Option Int32 :=
  (rQ g 108 v0 8).bind fun z1 =>
  (aI g 1 z1 (v1 + 1)).bind fun z2 =>
  if z2 = 97 then
    some 38
  else if z2 = 103 then
    some 62
  else if z2 = 108 then
    some 60
  else
    some 34
set_option maxRecDepth 20000 in
theorem d_Reader_entityByte {L : Nat} {xs : Nat → Int32} {Q : Option Value → ab_H → Prop} {v0 : Nat} {v1 : Int32} {g : g_S} {out : Int32} (e : M_Reader_entityByte v0 v1 g = some out) (c : Q (some (.int out)) (hp g)) : mw (ab_ext L xs) J_Reader_entityByte [.ref v0, .int v1] (hp g) Q := by
  unfold M_Reader_entityByte at e
  refine wp_p (j := J_Reader_entityByte) 1 (pc' := 1) (lv' := [(0, .ref v0), (1, .int v1)]) (st' := [.ref v0]) rfl ?_
  refine x_gQ e rfl rfl fd_8_8 rfl (fun z1 e => ?_)
  refine wp_p (j := J_Reader_entityByte) 3 (pc' := 7) (lv' := [(0, .ref v0), (1, .int v1)]) (st' := [.int (v1 + 1), .ref z1]) rfl ?_
  refine x_aB e rfl (.inl rfl) rfl (fun z2 e => ?_)
  refine x_if e (fun h3 e => ?_) (fun h3 e => ?_)
  · refine x_sw (cst := 97) (pc' := 50) (rest := []) h3 rfl rfl rfl ?_
    refine wp_p (j := J_Reader_entityByte) 1 (pc' := 52) (lv' := [(0, .ref v0), (1, .int v1)]) (st' := [.int 38]) rfl ?_
    have e := Option.some.inj e; subst e; exact wp_iret (ty := .int) rfl rfl rfl c
  refine x_if e (fun h4 e => ?_) (fun h4 e => ?_)
  · refine x_sw (cst := 103) (pc' := 47) (rest := []) h4 rfl rfl rfl ?_
    refine wp_p (j := J_Reader_entityByte) 1 (pc' := 49) (lv' := [(0, .ref v0), (1, .int v1)]) (st' := [.int 62]) rfl ?_
    have e := Option.some.inj e; subst e; exact wp_iret (ty := .int) rfl rfl rfl c
  refine x_if e (fun h5 e => ?_) (fun h5 e => ?_)
  · refine x_sw (cst := 108) (pc' := 44) (rest := []) h5 rfl rfl rfl ?_
    refine wp_p (j := J_Reader_entityByte) 1 (pc' := 46) (lv' := [(0, .ref v0), (1, .int v1)]) (st' := [.int 60]) rfl ?_
    have e := Option.some.inj e; subst e; exact wp_iret (ty := .int) rfl rfl rfl c
  refine wp_b (pc' := 53) (st' := []) rfl rfl ((lk_d (x := z2) (ps := #[(97, 42), (103, 39), (108, 36)]) rfl ⟨h3, h4, h5, trivial⟩).trans rfl) ?_
  refine wp_p (j := J_Reader_entityByte) 1 (pc' := 55) (lv' := [(0, .ref v0), (1, .int v1)]) (st' := [.int 34]) rfl ?_
  have e := Option.some.inj e; subst e; exact wp_iret (ty := .int) rfl rfl rfl c
def cL_Reader_decode_3 (L : Nat) (xs : Nat → Int32) (Q : Option Value → ab_H → Prop) (v0 : Nat) (v2 : Int32) (v3 : Int32) (v4 : Nat) (out : (Int32 × g_S) ⊕ (Int32 × g_S)) : Prop := match out with
  | .inl s => wp (ab_ext L xs) J_Reader_decode 3 [(0, .ref v0), (2, .int v2), (3, .int v3), (4, .ref v4), (5, .int s.1)] [] (hp s.2) Q
  | .inr s => wp (ab_ext L xs) J_Reader_decode 88 [(5, .int s.1)] [] (hp s.2) Q
noncomputable def k_Reader_decode_75 (v0 : Nat) (v2 : Int32) (v3 : Int32) (v4 : Nat) (v5 : Int32) (v6 : Int32) (w0 : Int32) (w1 : Nat) (g : g_S) : Option ((Int32 × g_S) ⊕ (Int32 × g_S)) :=
  (vc g 104 w1 (M_Bytes_add w1 w0 g)).bind fun g1 =>
  some (.inl (v5 + v6, g1))
set_option maxRecDepth 20000 in
theorem x_Reader_decode_75 {L : Nat} {xs : Nat → Int32} {Q : Option Value → ab_H → Prop} {v0 : Nat} {v2 : Int32} {v3 : Int32} {v4 : Nat} {v5 : Int32} {v6 : Int32} {w0 : Int32} {w1 : Nat} {g : g_S} {out : (Int32 × g_S) ⊕ (Int32 × g_S)} (e : k_Reader_decode_75 v0 v2 v3 v4 v5 v6 w0 w1 g = some out) (c : cL_Reader_decode_3 L xs Q v0 v2 v3 v4 out) : wp (ab_ext L xs) J_Reader_decode 75 [(0, .ref v0), (2, .int v2), (3, .int v3), (4, .ref v4), (5, .int v5), (6, .int v6)] [.int w0, .ref w1] (hp g) Q := by
  unfold k_Reader_decode_75 at e
  refine x_cv0 (As := [.int w0]) (rest := []) e rfl rfl rfl rfl rfl rfl (fun h => d_Bytes_add h ⟨rfl, rfl⟩) (fun g1 e => ?_)
  refine wp_p (j := J_Reader_decode) 5 (pc' := 3) (lv' := [(5, .int (v5 + v6)), (0, .ref v0), (2, .int v2), (3, .int v3), (4, .ref v4), (6, .int v6)]) (st' := []) rfl ?_
  have e := Option.some.inj e; subst e; exact wp_lv (lv' := [(0, .ref v0), (2, .int v2), (3, .int v3), (4, .ref v4), (5, .int (v5 + v6))]) rfl ⟨rfl, rfl, rfl, rfl, rfl, trivial⟩ c
noncomputable def k_Reader_decode_49 (v0 : Nat) (v2 : Int32) (v3 : Int32) (v4 : Nat) (v5 : Int32) (w0 : Int32) (g : g_S) : Option ((Int32 × g_S) ⊕ (Int32 × g_S)) :=
  if w0 = 1 then
    (rQ g 108 v0 8).bind fun z1 =>
    (aI g 1 z1 v5).bind fun z2 =>
    k_Reader_decode_75 v0 v2 v3 v4 v5 w0 z2 v4 g
  else
    (vc g 108 v0 (M_Reader_entityByte v0 v5 g)).bind fun z3 =>
    k_Reader_decode_75 v0 v2 v3 v4 v5 w0 z3 v4 g
set_option maxRecDepth 20000 in
theorem x_Reader_decode_49 {L : Nat} {xs : Nat → Int32} {Q : Option Value → ab_H → Prop} {v0 : Nat} {v2 : Int32} {v3 : Int32} {v4 : Nat} {v5 : Int32} {w0 : Int32} {g : g_S} {out : (Int32 × g_S) ⊕ (Int32 × g_S)} (e : k_Reader_decode_49 v0 v2 v3 v4 v5 w0 g = some out) (c : cL_Reader_decode_3 L xs Q v0 v2 v3 v4 out) : wp (ab_ext L xs) J_Reader_decode 49 [(0, .ref v0), (2, .int v2), (3, .int v3), (4, .ref v4), (5, .int v5)] [.int w0] (hp g) Q := by
  unfold k_Reader_decode_49 at e
  refine wp_p (j := J_Reader_decode) 4 (pc' := 56) (lv' := [(6, .int w0), (0, .ref v0), (2, .int v2), (3, .int v3), (4, .ref v4), (5, .int v5)]) (st' := [.int 1, .int w0, .ref v4]) rfl ?_
  refine x_ne e rfl (fun e => ?_) (fun e => ?_)
  · refine wp_p (j := J_Reader_decode) 1 (pc' := 60) (lv' := [(6, .int w0), (0, .ref v0), (2, .int v2), (3, .int v3), (4, .ref v4), (5, .int v5)]) (st' := [.ref v0, .ref v4]) rfl ?_
    refine x_gQ e rfl rfl fd_8_8 rfl (fun z1 e => ?_)
    refine wp_p (j := J_Reader_decode) 1 (pc' := 65) (lv' := [(6, .int w0), (0, .ref v0), (2, .int v2), (3, .int v3), (4, .ref v4), (5, .int v5)]) (st' := [.int v5, .ref z1, .ref v4]) rfl ?_
    refine x_aB e rfl (.inl rfl) rfl (fun z2 e => ?_)
    refine wp_p (j := J_Reader_decode) 1 (pc' := 75) (lv' := [(6, .int w0), (0, .ref v0), (2, .int v2), (3, .int v3), (4, .ref v4), (5, .int v5)]) (st' := [.int z2, .ref v4]) rfl ?_
    exact wp_lv (lv' := [(0, .ref v0), (2, .int v2), (3, .int v3), (4, .ref v4), (5, .int v5), (6, .int w0)]) rfl ⟨rfl, rfl, rfl, rfl, rfl, rfl, trivial⟩ (x_Reader_decode_75 e c)
  · refine wp_p (j := J_Reader_decode) 2 (pc' := 72) (lv' := [(6, .int w0), (0, .ref v0), (2, .int v2), (3, .int v3), (4, .ref v4), (5, .int v5)]) (st' := [.int v5, .ref v0, .ref v4]) rfl ?_
    refine x_cv1 (As := [.int v5]) (rest := [.ref v4]) Value.int e rfl rfl rfl rfl rfl rfl (fun h => d_Reader_entityByte h ⟨rfl, rfl⟩) (fun z3 e => ?_)
    exact wp_lv (lv' := [(0, .ref v0), (2, .int v2), (3, .int v3), (4, .ref v4), (5, .int v5), (6, .int w0)]) rfl ⟨rfl, rfl, rfl, rfl, rfl, rfl, trivial⟩ (x_Reader_decode_75 e c)
noncomputable def k_Reader_decode_48 (v0 : Nat) (v2 : Int32) (v3 : Int32) (v4 : Nat) (v5 : Int32) (g : g_S) : Option ((Int32 × g_S) ⊕ (Int32 × g_S)) :=
  k_Reader_decode_49 v0 v2 v3 v4 v5 1 g
set_option maxRecDepth 20000 in
theorem x_Reader_decode_48 {L : Nat} {xs : Nat → Int32} {Q : Option Value → ab_H → Prop} {v0 : Nat} {v2 : Int32} {v3 : Int32} {v4 : Nat} {v5 : Int32} {g : g_S} {out : (Int32 × g_S) ⊕ (Int32 × g_S)} (e : k_Reader_decode_48 v0 v2 v3 v4 v5 g = some out) (c : cL_Reader_decode_3 L xs Q v0 v2 v3 v4 out) : wp (ab_ext L xs) J_Reader_decode 48 [(0, .ref v0), (2, .int v2), (3, .int v3), (4, .ref v4), (5, .int v5)] [] (hp g) Q := by
  unfold k_Reader_decode_48 at e
  refine wp_p (j := J_Reader_decode) 1 (pc' := 49) (lv' := [(0, .ref v0), (2, .int v2), (3, .int v3), (4, .ref v4), (5, .int v5)]) (st' := [.int 1]) rfl ?_
  exact wp_lv (lv' := [(0, .ref v0), (2, .int v2), (3, .int v3), (4, .ref v4), (5, .int v5)]) rfl ⟨rfl, rfl, rfl, rfl, rfl, trivial⟩ (x_Reader_decode_49 e c)
noncomputable def b_Reader_decode_3 (v0 : Nat) (v2 : Int32) (v3 : Int32) (v4 : Nat) (v5 : Int32) (g : g_S) : Option ((Int32 × g_S) ⊕ (Int32 × g_S)) :=
  if v5 < v2 then
    (rI g 104 v4 2).bind fun z1 =>
    (rI g 104 v4 0).bind fun z2 =>
    if z1 < z2 then
      if v3 = 0 then
        k_Reader_decode_48 v0 v2 v3 v4 v5 g
      else
        (rQ g 108 v0 8).bind fun z3 =>
        (aI g 1 z3 v5).bind fun z4 =>
        if z4 = 38 then
          (vc g 108 v0 (M_Reader_entityLength v0 v5 v2 g)).bind fun z5 =>
          k_Reader_decode_49 v0 v2 v3 v4 v5 z5 g
        else
          k_Reader_decode_48 v0 v2 v3 v4 v5 g
    else
      some (.inr (v5, g))
  else
    some (.inr (v5, g))
set_option maxRecDepth 20000 in
theorem y_Reader_decode_3 {L : Nat} {xs : Nat → Int32} {Q : Option Value → ab_H → Prop} {v0 : Nat} {v2 : Int32} {v3 : Int32} {v4 : Nat} {v5 : Int32} {g : g_S} {out : (Int32 × g_S) ⊕ (Int32 × g_S)} (e : b_Reader_decode_3 v0 v2 v3 v4 v5 g = some out) (c : cL_Reader_decode_3 L xs Q v0 v2 v3 v4 out) : wp (ab_ext L xs) J_Reader_decode 3 [(0, .ref v0), (2, .int v2), (3, .int v3), (4, .ref v4), (5, .int v5)] [] (hp g) Q := by
  unfold b_Reader_decode_3 at e
  refine wp_p (j := J_Reader_decode) 2 (pc' := 6) (lv' := [(0, .ref v0), (2, .int v2), (3, .int v3), (4, .ref v4), (5, .int v5)]) (st' := [.int v2, .int v5]) rfl ?_
  refine x_ge e rfl (fun e => ?_) (fun e => ?_)
  · refine wp_p (j := J_Reader_decode) 1 (pc' := 11) (lv' := [(0, .ref v0), (2, .int v2), (3, .int v3), (4, .ref v4), (5, .int v5)]) (st' := [.ref v4]) rfl ?_
    refine x_gI e rfl rfl fd_4_2 rfl (fun z1 e => ?_)
    refine wp_p (j := J_Reader_decode) 1 (pc' := 16) (lv' := [(0, .ref v0), (2, .int v2), (3, .int v3), (4, .ref v4), (5, .int v5)]) (st' := [.ref v4, .int z1]) rfl ?_
    refine x_gI e rfl rfl fd_4_0 rfl (fun z2 e => ?_)
    refine x_ge e rfl (fun e => ?_) (fun e => ?_)
    · refine wp_p (j := J_Reader_decode) 1 (pc' := 23) (lv' := [(0, .ref v0), (2, .int v2), (3, .int v3), (4, .ref v4), (5, .int v5)]) (st' := [.int v3]) rfl ?_
      refine z_eq e rfl (fun e => ?_) (fun e => ?_)
      · exact wp_lv (lv' := [(0, .ref v0), (2, .int v2), (3, .int v3), (4, .ref v4), (5, .int v5)]) rfl ⟨rfl, rfl, rfl, rfl, rfl, trivial⟩ (x_Reader_decode_48 e c)
      · refine wp_p (j := J_Reader_decode) 1 (pc' := 27) (lv' := [(0, .ref v0), (2, .int v2), (3, .int v3), (4, .ref v4), (5, .int v5)]) (st' := [.ref v0]) rfl ?_
        refine x_gQ e rfl rfl fd_8_8 rfl (fun z3 e => ?_)
        refine wp_p (j := J_Reader_decode) 1 (pc' := 32) (lv' := [(0, .ref v0), (2, .int v2), (3, .int v3), (4, .ref v4), (5, .int v5)]) (st' := [.int v5, .ref z3]) rfl ?_
        refine x_aB e rfl (.inl rfl) rfl (fun z4 e => ?_)
        refine wp_p (j := J_Reader_decode) 1 (pc' := 35) (lv' := [(0, .ref v0), (2, .int v2), (3, .int v3), (4, .ref v4), (5, .int v5)]) (st' := [.int 38, .int z4]) rfl ?_
        refine x_ne e rfl (fun e => ?_) (fun e => ?_)
        · refine wp_p (j := J_Reader_decode) 3 (pc' := 42) (lv' := [(0, .ref v0), (2, .int v2), (3, .int v3), (4, .ref v4), (5, .int v5)]) (st' := [.int v2, .int v5, .ref v0]) rfl ?_
          refine x_cv1 (As := [.int v5, .int v2]) (rest := []) Value.int e rfl rfl rfl rfl rfl rfl (fun h => d_Reader_entityLength h ⟨rfl, rfl⟩) (fun z5 e => ?_)
          refine wp_p (j := J_Reader_decode) 1 (pc' := 49) (lv' := [(0, .ref v0), (2, .int v2), (3, .int v3), (4, .ref v4), (5, .int v5)]) (st' := [.int z5]) rfl ?_
          exact wp_lv (lv' := [(0, .ref v0), (2, .int v2), (3, .int v3), (4, .ref v4), (5, .int v5)]) rfl ⟨rfl, rfl, rfl, rfl, rfl, trivial⟩ (x_Reader_decode_49 e c)
        · exact wp_lv (lv' := [(0, .ref v0), (2, .int v2), (3, .int v3), (4, .ref v4), (5, .int v5)]) rfl ⟨rfl, rfl, rfl, rfl, rfl, trivial⟩ (x_Reader_decode_48 e c)
    · have e := Option.some.inj e; subst e; exact wp_lv (lv' := [(5, .int v5)]) rfl ⟨rfl, trivial⟩ c
  · have e := Option.some.inj e; subst e; exact wp_lv (lv' := [(5, .int v5)]) rfl ⟨rfl, trivial⟩ c
noncomputable def L_Reader_decode_3 (v0 : Nat) (v2 : Int32) (v3 : Int32) (v4 : Nat) (v5 : Int32) (g : g_S) : Option (Int32 × g_S) := it (fun s : Int32 × g_S => b_Reader_decode_3 v0 v2 v3 v4 s.1 s.2) (v5, g)
theorem l_Reader_decode_3 {L : Nat} {xs : Nat → Int32} {Q : Option Value → ab_H → Prop} {v0 : Nat} {v2 : Int32} {v3 : Int32} {v4 : Nat} {v5 : Int32} {g : g_S} {r : Int32 × g_S} (e : L_Reader_decode_3 v0 v2 v3 v4 v5 g = some r) (c : cL_Reader_decode_3 L xs Q v0 v2 v3 v4 (.inr r)) : wp (ab_ext L xs) J_Reader_decode 3 [(0, .ref v0), (2, .int v2), (3, .int v3), (4, .ref v4), (5, .int v5)] [] (hp g) Q :=
  it_wp (P := fun s : Int32 × g_S => wp (ab_ext L xs) J_Reader_decode 3 [(0, .ref v0), (2, .int v2), (3, .int v3), (4, .ref v4), (5, .int s.1)] [] (hp s.2) Q) (E := fun r => cL_Reader_decode_3 L xs Q v0 v2 v3 v4 (.inr r)) (fun s out e c => y_Reader_decode_3 e (by cases out <;> exact c)) e c
theorem L_Reader_decode_3_eq (v0 : Nat) (v2 : Int32) (v3 : Int32) (v4 : Nat) (v5 : Int32) (g : g_S) : L_Reader_decode_3 v0 v2 v3 v4 v5 g = itc (b_Reader_decode_3 v0 v2 v3 v4 v5 g) (fun s => L_Reader_decode_3 v0 v2 v3 v4 s.1 s.2) := it_eq2 (fun s : Int32 × g_S => b_Reader_decode_3 v0 v2 v3 v4 s.1 s.2) (v5, g)
noncomputable def M_Reader_decode (v0 : Nat) (v1 : Int32) (v2 : Int32) (v3 : Int32) (v4 : Nat) (g : g_S) : Option (Int32 × g_S) :=
  (L_Reader_decode_3 v0 v2 v3 v4 v1 g).bind <| u2 fun z3 g4 =>
  some (z3, g4)
set_option maxRecDepth 20000 in
theorem d_Reader_decode {L : Nat} {xs : Nat → Int32} {Q : Option Value → ab_H → Prop} {v0 : Nat} {v1 : Int32} {v2 : Int32} {v3 : Int32} {v4 : Nat} {g : g_S} {out : Int32 × g_S} (e : M_Reader_decode v0 v1 v2 v3 v4 g = some out) (c : Q (some (.int out.1)) (hp out.2)) : mw (ab_ext L xs) J_Reader_decode [.ref v0, .int v1, .int v2, .int v3, .ref v4] (hp g) Q := by
  unfold M_Reader_decode at e
  refine wp_p (j := J_Reader_decode) 2 (pc' := 3) (lv' := [(5, .int v1), (0, .ref v0), (1, .int v1), (2, .int v2), (3, .int v3), (4, .ref v4)]) (st' := []) rfl ?_
  obtain ⟨s1, h2, e⟩ := bd e
  refine wp_lv (lv' := [(0, .ref v0), (2, .int v2), (3, .int v3), (4, .ref v4), (5, .int v1)]) rfl ⟨rfl, rfl, rfl, rfl, rfl, trivial⟩ ?_
  refine l_Reader_decode_3 h2 ?_
  obtain ⟨z3, g4⟩ := s1
  replace e := u2_e e
  show wp (ab_ext L xs) J_Reader_decode 88 [(5, .int z3)] [] (hp g4) Q
  refine wp_p (j := J_Reader_decode) 1 (pc' := 90) (lv' := [(5, .int z3)]) (st' := [.int z3]) rfl ?_
  have e := Option.some.inj e; subst e; exact wp_iret (ty := .int) rfl rfl rfl c
noncomputable def k_Reader_addRun_96 (v0 : Nat) (v1 : Int32) (v2 : Int32) (v3 : Int32) (v5 : Int32) (g : g_S) : Option g_S :=
  (rQ g 108 v0 0).bind fun z1 =>
  (rQ g 110 z1 0).bind fun z2 =>
  (aQ g 5 z2 v5).bind fun z3 =>
  (rQ g 107 z3 11).bind fun z4 =>
  c2 (vc g 108 v0 (M_Reader_decode v0 v1 v2 v3 z4 g)) fun z5 g6 =>
  if z5 < v2 then
    (rI g6 108 v0 11).bind fun z7 =>
    if z7 = v5 then
      some g6
    else
      (wI g6 108 v0 11 v5).bind fun g8 =>
      (vc g8 108 v0 (M_Reader_tell v0 7 z5 g8)).bind fun g9 =>
      some g9
  else
    some g6
set_option maxRecDepth 20000 in
theorem x_Reader_addRun_96 {L : Nat} {xs : Nat → Int32} {Q : Option Value → ab_H → Prop} {v0 : Nat} {v1 : Int32} {v2 : Int32} {v3 : Int32} {v5 : Int32} {g : g_S} {out : g_S} (e : k_Reader_addRun_96 v0 v1 v2 v3 v5 g = some out) (c : Q none (hp out)) : wp (ab_ext L xs) J_Reader_addRun 96 [(0, .ref v0), (1, .int v1), (2, .int v2), (3, .int v3), (5, .int v5)] [] (hp g) Q := by
  unfold k_Reader_addRun_96 at e
  refine wp_p (j := J_Reader_addRun) 5 (pc' := 101) (lv' := [(0, .ref v0), (1, .int v1), (2, .int v2), (3, .int v3), (5, .int v5)]) (st' := [.ref v0, .int v3, .int v2, .int v1, .ref v0]) rfl ?_
  refine x_gQ e rfl rfl fd_8_0 rfl (fun z1 e => ?_)
  refine x_gQ e rfl rfl fd_10_0 rfl (fun z2 e => ?_)
  refine wp_p (j := J_Reader_addRun) 1 (pc' := 109) (lv' := [(0, .ref v0), (1, .int v1), (2, .int v2), (3, .int v3), (5, .int v5)]) (st' := [.int v5, .ref z2, .int v3, .int v2, .int v1, .ref v0]) rfl ?_
  refine x_aQ e rfl rfl rfl (fun z3 e => ?_)
  refine x_gQ e rfl rfl fd_7_11 rfl (fun z4 e => ?_)
  refine x_cv2 (As := [.int v1, .int v2, .int v3, .ref z4]) (rest := []) Value.int e rfl rfl rfl rfl rfl rfl (fun h => d_Reader_decode h ⟨rfl, rfl⟩) (fun z5 g6 e => ?_)
  refine wp_p (j := J_Reader_addRun) 3 (pc' := 121) (lv' := [(6, .int z5), (0, .ref v0), (1, .int v1), (2, .int v2), (3, .int v3), (5, .int v5)]) (st' := [.int v2, .int z5]) rfl ?_
  refine x_ge e rfl (fun e => ?_) (fun e => ?_)
  · refine wp_p (j := J_Reader_addRun) 1 (pc' := 125) (lv' := [(6, .int z5), (0, .ref v0), (1, .int v1), (2, .int v2), (3, .int v3), (5, .int v5)]) (st' := [.ref v0]) rfl ?_
    refine x_gI e rfl rfl fd_8_11 rfl (fun z7 e => ?_)
    refine wp_p (j := J_Reader_addRun) 1 (pc' := 130) (lv' := [(6, .int z5), (0, .ref v0), (1, .int v1), (2, .int v2), (3, .int v3), (5, .int v5)]) (st' := [.int v5, .int z7]) rfl ?_
    refine x_eq e rfl (fun e => ?_) (fun e => ?_)
    · have e := Option.some.inj e; subst e; exact wp_vret rfl rfl c
    · refine wp_p (j := J_Reader_addRun) 2 (pc' := 136) (lv' := [(6, .int z5), (0, .ref v0), (1, .int v1), (2, .int v2), (3, .int v3), (5, .int v5)]) (st' := [.int v5, .ref v0]) rfl ?_
      refine x_pI e rfl rfl fw_8_11 rfl (fun g8 e => ?_)
      refine wp_p (j := J_Reader_addRun) 3 (pc' := 144) (lv' := [(6, .int z5), (0, .ref v0), (1, .int v1), (2, .int v2), (3, .int v3), (5, .int v5)]) (st' := [.int z5, .int 7, .ref v0]) rfl ?_
      refine x_cv0 (As := [.int 7, .int z5]) (rest := []) e rfl rfl rfl rfl rfl rfl (fun h => d_Reader_tell h ⟨rfl, rfl⟩) (fun g9 e => ?_)
      have e := Option.some.inj e; subst e; exact wp_vret rfl rfl c
  · have e := Option.some.inj e; subst e; exact wp_vret rfl rfl c
noncomputable def k_Reader_addRun_52 (v0 : Nat) (v1 : Int32) (v2 : Int32) (v3 : Int32) (v4 : Int32) (g : g_S) : Option g_S :=
  (vc g 108 v0 (M_Reader_isBlankRun v0 v1 v2 g)).bind fun z1 =>
  if z1 = 0 then
    (rQ g 108 v0 0).bind fun z2 =>
    (vc g 110 z2 (M_Tree_hasRoom z2 v4 g)).bind fun z3 =>
    if z3 = 0 then
      (vc g 108 v0 (M_Reader_tell v0 6 v1 g)).bind fun g4 =>
      some g4
    else
      (rQ g 108 v0 0).bind fun z5 =>
      c2 (vc g 110 z5 (M_Tree_grow z5 v4 17 0 g)) fun z6 g7 =>
      k_Reader_addRun_96 v0 v1 v2 v3 z6 g7
  else
    some g
set_option maxRecDepth 20000 in
theorem x_Reader_addRun_52 {L : Nat} {xs : Nat → Int32} {Q : Option Value → ab_H → Prop} {v0 : Nat} {v1 : Int32} {v2 : Int32} {v3 : Int32} {v4 : Int32} {g : g_S} {out : g_S} (e : k_Reader_addRun_52 v0 v1 v2 v3 v4 g = some out) (c : Q none (hp out)) : wp (ab_ext L xs) J_Reader_addRun 52 [(0, .ref v0), (1, .int v1), (2, .int v2), (3, .int v3), (4, .int v4)] [] (hp g) Q := by
  unfold k_Reader_addRun_52 at e
  refine wp_p (j := J_Reader_addRun) 3 (pc' := 55) (lv' := [(0, .ref v0), (1, .int v1), (2, .int v2), (3, .int v3), (4, .int v4)]) (st' := [.int v2, .int v1, .ref v0]) rfl ?_
  refine x_cv1 (As := [.int v1, .int v2]) (rest := []) Value.int e rfl rfl rfl rfl rfl rfl (fun h => d_Reader_isBlankRun h ⟨rfl, rfl⟩) (fun z1 e => ?_)
  refine z_eq e rfl (fun e => ?_) (fun e => ?_)
  · refine wp_p (j := J_Reader_addRun) 1 (pc' := 63) (lv' := [(0, .ref v0), (1, .int v1), (2, .int v2), (3, .int v3), (4, .int v4)]) (st' := [.ref v0]) rfl ?_
    refine x_gQ e rfl rfl fd_8_0 rfl (fun z2 e => ?_)
    refine wp_p (j := J_Reader_addRun) 1 (pc' := 68) (lv' := [(0, .ref v0), (1, .int v1), (2, .int v2), (3, .int v3), (4, .int v4)]) (st' := [.int v4, .ref z2]) rfl ?_
    refine x_cv1 (As := [.int v4]) (rest := []) Value.int e rfl rfl rfl rfl rfl rfl (fun h => d_Tree_hasRoom h ⟨rfl, rfl⟩) (fun z3 e => ?_)
    refine z_ne e rfl (fun e => ?_) (fun e => ?_)
    · refine wp_p (j := J_Reader_addRun) 3 (pc' := 78) (lv' := [(0, .ref v0), (1, .int v1), (2, .int v2), (3, .int v3), (4, .int v4)]) (st' := [.int v1, .int 6, .ref v0]) rfl ?_
      refine x_cv0 (As := [.int 6, .int v1]) (rest := []) e rfl rfl rfl rfl rfl rfl (fun h => d_Reader_tell h ⟨rfl, rfl⟩) (fun g4 e => ?_)
      have e := Option.some.inj e; subst e; exact wp_vret rfl rfl c
    · refine wp_p (j := J_Reader_addRun) 1 (pc' := 83) (lv' := [(0, .ref v0), (1, .int v1), (2, .int v2), (3, .int v3), (4, .int v4)]) (st' := [.ref v0]) rfl ?_
      refine x_gQ e rfl rfl fd_8_0 rfl (fun z5 e => ?_)
      refine wp_p (j := J_Reader_addRun) 3 (pc' := 91) (lv' := [(0, .ref v0), (1, .int v1), (2, .int v2), (3, .int v3), (4, .int v4)]) (st' := [.long 0, .int 17, .int v4, .ref z5]) rfl ?_
      refine x_cv2 (As := [.int v4, .int 17, .long 0]) (rest := []) Value.int e rfl rfl rfl rfl rfl rfl (fun h => d_Tree_grow h ⟨rfl, rfl⟩) (fun z6 g7 e => ?_)
      refine wp_p (j := J_Reader_addRun) 1 (pc' := 96) (lv' := [(5, .int z6), (0, .ref v0), (1, .int v1), (2, .int v2), (3, .int v3), (4, .int v4)]) (st' := []) rfl ?_
      exact wp_lv (lv' := [(0, .ref v0), (1, .int v1), (2, .int v2), (3, .int v3), (5, .int z6)]) rfl ⟨rfl, rfl, rfl, rfl, rfl, trivial⟩ (x_Reader_addRun_96 e c)
  · have e := Option.some.inj e; subst e; exact wp_vret rfl rfl c
noncomputable def M_Reader_addRun (v0 : Nat) (v1 : Int32) (v2 : Int32) (v3 : Int32) (g : g_S) : Option g_S :=
  (rQ g 108 v0 4).bind fun z1 =>
  (rI g 108 v0 6).bind fun z2 =>
  (aI g 0 z1 (z2 - 1)).bind fun z3 =>
  (rQ g 108 v0 0).bind fun z4 =>
  (rQ g 110 z4 0).bind fun z5 =>
  (aQ g 5 z5 z3).bind fun z6 =>
  (rI g 107 z6 4).bind fun z7 =>
  if z7 = (-1) then
    k_Reader_addRun_52 v0 v1 v2 v3 z3 g
  else
    (rQ g 108 v0 0).bind fun z8 =>
    (rQ g 110 z8 0).bind fun z9 =>
    (aQ g 5 z9 z7).bind fun z10 =>
    (rI g 107 z10 0).bind fun z11 =>
    if z11 = 17 then
      k_Reader_addRun_96 v0 v1 v2 v3 z7 g
    else
      k_Reader_addRun_52 v0 v1 v2 v3 z3 g
set_option maxRecDepth 20000 in
theorem d_Reader_addRun {L : Nat} {xs : Nat → Int32} {Q : Option Value → ab_H → Prop} {v0 : Nat} {v1 : Int32} {v2 : Int32} {v3 : Int32} {g : g_S} {out : g_S} (e : M_Reader_addRun v0 v1 v2 v3 g = some out) (c : Q none (hp out)) : mw (ab_ext L xs) J_Reader_addRun [.ref v0, .int v1, .int v2, .int v3] (hp g) Q := by
  unfold M_Reader_addRun at e
  refine wp_p (j := J_Reader_addRun) 1 (pc' := 1) (lv' := [(0, .ref v0), (1, .int v1), (2, .int v2), (3, .int v3)]) (st' := [.ref v0]) rfl ?_
  refine x_gQ e rfl rfl fd_8_4 rfl (fun z1 e => ?_)
  refine wp_p (j := J_Reader_addRun) 1 (pc' := 5) (lv' := [(0, .ref v0), (1, .int v1), (2, .int v2), (3, .int v3)]) (st' := [.ref v0, .ref z1]) rfl ?_
  refine x_gI e rfl rfl fd_8_6 rfl (fun z2 e => ?_)
  refine wp_p (j := J_Reader_addRun) 2 (pc' := 10) (lv' := [(0, .ref v0), (1, .int v1), (2, .int v2), (3, .int v3)]) (st' := [.int (z2 - 1), .ref z1]) rfl ?_
  refine x_aI e rfl rfl (fun z3 e => ?_)
  refine wp_p (j := J_Reader_addRun) 2 (pc' := 14) (lv' := [(4, .int z3), (0, .ref v0), (1, .int v1), (2, .int v2), (3, .int v3)]) (st' := [.ref v0]) rfl ?_
  refine x_gQ e rfl rfl fd_8_0 rfl (fun z4 e => ?_)
  refine x_gQ e rfl rfl fd_10_0 rfl (fun z5 e => ?_)
  refine wp_p (j := J_Reader_addRun) 1 (pc' := 22) (lv' := [(4, .int z3), (0, .ref v0), (1, .int v1), (2, .int v2), (3, .int v3)]) (st' := [.int z3, .ref z5]) rfl ?_
  refine x_aQ e rfl rfl rfl (fun z6 e => ?_)
  refine x_gI e rfl rfl fd_7_4 rfl (fun z7 e => ?_)
  refine wp_p (j := J_Reader_addRun) 3 (pc' := 31) (lv' := [(5, .int z7), (4, .int z3), (0, .ref v0), (1, .int v1), (2, .int v2), (3, .int v3)]) (st' := [.int (-1), .int z7]) rfl ?_
  refine x_eq e rfl (fun e => ?_) (fun e => ?_)
  · exact wp_lv (lv' := [(0, .ref v0), (1, .int v1), (2, .int v2), (3, .int v3), (4, .int z3)]) rfl ⟨rfl, rfl, rfl, rfl, rfl, trivial⟩ (x_Reader_addRun_52 e c)
  · refine wp_p (j := J_Reader_addRun) 1 (pc' := 35) (lv' := [(5, .int z7), (4, .int z3), (0, .ref v0), (1, .int v1), (2, .int v2), (3, .int v3)]) (st' := [.ref v0]) rfl ?_
    refine x_gQ e rfl rfl fd_8_0 rfl (fun z8 e => ?_)
    refine x_gQ e rfl rfl fd_10_0 rfl (fun z9 e => ?_)
    refine wp_p (j := J_Reader_addRun) 1 (pc' := 43) (lv' := [(5, .int z7), (4, .int z3), (0, .ref v0), (1, .int v1), (2, .int v2), (3, .int v3)]) (st' := [.int z7, .ref z9]) rfl ?_
    refine x_aQ e rfl rfl rfl (fun z10 e => ?_)
    refine x_gI e rfl rfl fd_7_0 rfl (fun z11 e => ?_)
    refine wp_p (j := J_Reader_addRun) 1 (pc' := 49) (lv' := [(5, .int z7), (4, .int z3), (0, .ref v0), (1, .int v1), (2, .int v2), (3, .int v3)]) (st' := [.int 17, .int z11]) rfl ?_
    refine x_eq e rfl (fun e => ?_) (fun e => ?_)
    · exact wp_lv (lv' := [(0, .ref v0), (1, .int v1), (2, .int v2), (3, .int v3), (5, .int z7)]) rfl ⟨rfl, rfl, rfl, rfl, rfl, trivial⟩ (x_Reader_addRun_96 e c)
    · exact wp_lv (lv' := [(0, .ref v0), (1, .int v1), (2, .int v2), (3, .int v3), (4, .int z3)]) rfl ⟨rfl, rfl, rfl, rfl, rfl, trivial⟩ (x_Reader_addRun_52 e c)
def cL_Reader_readRaw_5 (L : Nat) (xs : Nat → Int32) (Q : Option Value → ab_H → Prop) (v0 : Nat) (g : g_S) (out : (Int32) ⊕ (Int32)) : Prop := match out with
  | .inl s => wp (ab_ext L xs) J_Reader_readRaw 5 [(0, .ref v0), (1, .int s)] [] (hp g) Q
  | .inr s => wp (ab_ext L xs) J_Reader_readRaw 36 [(0, .ref v0), (1, .int s)] [] (hp g) Q
noncomputable def b_Reader_readRaw_5 (v0 : Nat) (v1 : Int32) (g : g_S) : Option ((Int32) ⊕ (Int32)) :=
  (rI g 108 v0 9).bind fun z1 =>
  if v1 < z1 then
    (rQ g 108 v0 8).bind fun z2 =>
    (rI g 108 v0 9).bind fun z3 =>
    (M_Bytes_stands 1000010 z2 v1 z3 g).bind fun z4 =>
    if z4 = 0 then
      some (.inl (v1 + 1))
    else
      some (.inr v1)
  else
    some (.inr v1)
set_option maxRecDepth 20000 in
theorem y_Reader_readRaw_5 {L : Nat} {xs : Nat → Int32} {Q : Option Value → ab_H → Prop} {v0 : Nat} {v1 : Int32} {g : g_S} {out : (Int32) ⊕ (Int32)} (e : b_Reader_readRaw_5 v0 v1 g = some out) (c : cL_Reader_readRaw_5 L xs Q v0 g out) : wp (ab_ext L xs) J_Reader_readRaw 5 [(0, .ref v0), (1, .int v1)] [] (hp g) Q := by
  unfold b_Reader_readRaw_5 at e
  refine wp_p (j := J_Reader_readRaw) 2 (pc' := 7) (lv' := [(0, .ref v0), (1, .int v1)]) (st' := [.ref v0, .int v1]) rfl ?_
  refine x_gI e rfl rfl fd_8_9 rfl (fun z1 e => ?_)
  refine x_ge e rfl (fun e => ?_) (fun e => ?_)
  · refine x_ls rfl rfl ?_
    refine wp_p (j := J_Reader_readRaw) 1 (pc' := 16) (lv' := [(0, .ref v0), (1, .int v1)]) (st' := [.ref v0, .ref 1000010]) rfl ?_
    refine x_gQ e rfl rfl fd_8_8 rfl (fun z2 e => ?_)
    refine wp_p (j := J_Reader_readRaw) 2 (pc' := 21) (lv' := [(0, .ref v0), (1, .int v1)]) (st' := [.ref v0, .int v1, .ref z2, .ref 1000010]) rfl ?_
    refine x_gI e rfl rfl fd_8_9 rfl (fun z3 e => ?_)
    refine x_cs1 (As := [.ref 1000010, .ref z2, .int v1, .int z3]) (rest := []) Value.int e rfl rfl rfl rfl rfl (fun h => d_Bytes_stands h ⟨rfl, rfl⟩) (fun z4 e => ?_)
    refine z_ne e rfl (fun e => ?_) (fun e => ?_)
    · refine wp_p (j := J_Reader_readRaw) 2 (pc' := 5) (lv' := [(1, .int (v1 + 1)), (0, .ref v0)]) (st' := []) rfl ?_
      have e := Option.some.inj e; subst e; exact wp_lv (lv' := [(0, .ref v0), (1, .int (v1 + 1))]) rfl ⟨rfl, rfl, trivial⟩ c
    · have e := Option.some.inj e; subst e; exact wp_lv (lv' := [(0, .ref v0), (1, .int v1)]) rfl ⟨rfl, rfl, trivial⟩ c
  · have e := Option.some.inj e; subst e; exact wp_lv (lv' := [(0, .ref v0), (1, .int v1)]) rfl ⟨rfl, rfl, trivial⟩ c
noncomputable def L_Reader_readRaw_5 (v0 : Nat) (v1 : Int32) (g : g_S) : Option (Int32) := it (fun s : Int32 => b_Reader_readRaw_5 v0 s g) (v1)
theorem l_Reader_readRaw_5 {L : Nat} {xs : Nat → Int32} {Q : Option Value → ab_H → Prop} {v0 : Nat} {v1 : Int32} {g : g_S} {r : Int32} (e : L_Reader_readRaw_5 v0 v1 g = some r) (c : cL_Reader_readRaw_5 L xs Q v0 g (.inr r)) : wp (ab_ext L xs) J_Reader_readRaw 5 [(0, .ref v0), (1, .int v1)] [] (hp g) Q :=
  it_wp (P := fun s : Int32 => wp (ab_ext L xs) J_Reader_readRaw 5 [(0, .ref v0), (1, .int s)] [] (hp g) Q) (E := fun r => cL_Reader_readRaw_5 L xs Q v0 g (.inr r)) (fun s out e c => y_Reader_readRaw_5 e (by cases out <;> exact c)) e c
theorem L_Reader_readRaw_5_eq (v0 : Nat) (v1 : Int32) (g : g_S) : L_Reader_readRaw_5 v0 v1 g = itc (b_Reader_readRaw_5 v0 v1 g) (fun s => L_Reader_readRaw_5 v0 s g) := it_eq2 (fun s : Int32 => b_Reader_readRaw_5 v0 s g) (v1)
noncomputable def k_Reader_readRaw_36 (v0 : Nat) (v1 : Int32) (g : g_S) : Option g_S :=
  (rI g 108 v0 10).bind fun z1 =>
  (vc g 108 v0 (M_Reader_addRun v0 z1 v1 0 g)).bind fun g2 =>
  (wI g2 108 v0 10 v1).bind fun g3 =>
  some g3
set_option maxRecDepth 20000 in
theorem x_Reader_readRaw_36 {L : Nat} {xs : Nat → Int32} {Q : Option Value → ab_H → Prop} {v0 : Nat} {v1 : Int32} {g : g_S} {out : g_S} (e : k_Reader_readRaw_36 v0 v1 g = some out) (c : Q none (hp out)) : wp (ab_ext L xs) J_Reader_readRaw 36 [(0, .ref v0), (1, .int v1)] [] (hp g) Q := by
  unfold k_Reader_readRaw_36 at e
  refine wp_p (j := J_Reader_readRaw) 2 (pc' := 38) (lv' := [(0, .ref v0), (1, .int v1)]) (st' := [.ref v0, .ref v0]) rfl ?_
  refine x_gI e rfl rfl fd_8_10 rfl (fun z1 e => ?_)
  refine wp_p (j := J_Reader_readRaw) 2 (pc' := 43) (lv' := [(0, .ref v0), (1, .int v1)]) (st' := [.int 0, .int v1, .int z1, .ref v0]) rfl ?_
  refine x_cv0 (As := [.int z1, .int v1, .int 0]) (rest := []) e rfl rfl rfl rfl rfl rfl (fun h => d_Reader_addRun h ⟨rfl, rfl⟩) (fun g2 e => ?_)
  refine wp_p (j := J_Reader_readRaw) 2 (pc' := 48) (lv' := [(0, .ref v0), (1, .int v1)]) (st' := [.int v1, .ref v0]) rfl ?_
  refine x_pI e rfl rfl fw_8_10 rfl (fun g3 e => ?_)
  have e := Option.some.inj e; subst e; exact wp_vret rfl rfl c
noncomputable def M_Reader_readRaw (v0 : Nat) (g : g_S) : Option g_S :=
  (rI g 108 v0 10).bind fun z1 =>
  (L_Reader_readRaw_5 v0 z1 g).bind <| fun z4 =>
  k_Reader_readRaw_36 v0 z4 g
set_option maxRecDepth 20000 in
theorem d_Reader_readRaw {L : Nat} {xs : Nat → Int32} {Q : Option Value → ab_H → Prop} {v0 : Nat} {g : g_S} {out : g_S} (e : M_Reader_readRaw v0 g = some out) (c : Q none (hp out)) : mw (ab_ext L xs) J_Reader_readRaw [.ref v0] (hp g) Q := by
  unfold M_Reader_readRaw at e
  refine wp_p (j := J_Reader_readRaw) 1 (pc' := 1) (lv' := [(0, .ref v0)]) (st' := [.ref v0]) rfl ?_
  refine x_gI e rfl rfl fd_8_10 rfl (fun z1 e => ?_)
  refine wp_p (j := J_Reader_readRaw) 1 (pc' := 5) (lv' := [(1, .int z1), (0, .ref v0)]) (st' := []) rfl ?_
  obtain ⟨z4, h3, e⟩ := bd e
  refine wp_lv (lv' := [(0, .ref v0), (1, .int z1)]) rfl ⟨rfl, rfl, trivial⟩ ?_
  refine l_Reader_readRaw_5 h3 ?_
  show wp (ab_ext L xs) J_Reader_readRaw 36 [(0, .ref v0), (1, .int z4)] [] (hp g) Q
  exact wp_lv (lv' := [(0, .ref v0), (1, .int z4)]) rfl ⟨rfl, rfl, trivial⟩ (x_Reader_readRaw_36 e c)
noncomputable def k_Bytes_isLetter_12 (v0 : Int32) (g : g_S) : Option Int32 :=
  if v0 < 65 then
    some 0
  else
    if 90 < v0 then
      some 0
    else
      some 1
set_option maxRecDepth 20000 in
theorem x_Bytes_isLetter_12 {L : Nat} {xs : Nat → Int32} {Q : Option Value → ab_H → Prop} {v0 : Int32} {g : g_S} {out : Int32} (e : k_Bytes_isLetter_12 v0 g = some out) (c : Q (some (.int out)) (hp g)) : wp (ab_ext L xs) J_Bytes_isLetter 12 [(0, .int v0)] [] (hp g) Q := by
  unfold k_Bytes_isLetter_12 at e
  refine wp_p (j := J_Bytes_isLetter) 2 (pc' := 15) (lv' := [(0, .int v0)]) (st' := [.int 65, .int v0]) rfl ?_
  refine x_lt e rfl (fun e => ?_) (fun e => ?_)
  · refine wp_p (j := J_Bytes_isLetter) 1 (pc' := 29) (lv' := [(0, .int v0)]) (st' := [.int 0]) rfl ?_
    have e := Option.some.inj e; subst e; exact wp_iret (ty := .boolean) rfl rfl (by decide) c
  · refine wp_p (j := J_Bytes_isLetter) 2 (pc' := 21) (lv' := [(0, .int v0)]) (st' := [.int 90, .int v0]) rfl ?_
    refine x_gt e rfl (fun e => ?_) (fun e => ?_)
    · refine wp_p (j := J_Bytes_isLetter) 1 (pc' := 29) (lv' := [(0, .int v0)]) (st' := [.int 0]) rfl ?_
      have e := Option.some.inj e; subst e; exact wp_iret (ty := .boolean) rfl rfl (by decide) c
    · refine wp_p (j := J_Bytes_isLetter) 2 (pc' := 29) (lv' := [(0, .int v0)]) (st' := [.int 1]) rfl ?_
      have e := Option.some.inj e; subst e; exact wp_iret (ty := .boolean) rfl rfl (by decide) c
noncomputable def M_Bytes_isLetter (v0 : Int32) (g : g_S) : Option Int32 :=
  if v0 < 97 then
    k_Bytes_isLetter_12 v0 g
  else
    if 122 < v0 then
      k_Bytes_isLetter_12 v0 g
    else
      some 1
set_option maxRecDepth 20000 in
theorem d_Bytes_isLetter {L : Nat} {xs : Nat → Int32} {Q : Option Value → ab_H → Prop} {v0 : Int32} {g : g_S} {out : Int32} (e : M_Bytes_isLetter v0 g = some out) (c : Q (some (.int out)) (hp g)) : mw (ab_ext L xs) J_Bytes_isLetter [.int v0] (hp g) Q := by
  unfold M_Bytes_isLetter at e
  refine wp_p (j := J_Bytes_isLetter) 2 (pc' := 3) (lv' := [(0, .int v0)]) (st' := [.int 97, .int v0]) rfl ?_
  refine x_lt e rfl (fun e => ?_) (fun e => ?_)
  · exact wp_lv (lv' := [(0, .int v0)]) rfl ⟨rfl, trivial⟩ (x_Bytes_isLetter_12 e c)
  · refine wp_p (j := J_Bytes_isLetter) 2 (pc' := 9) (lv' := [(0, .int v0)]) (st' := [.int 122, .int v0]) rfl ?_
    refine x_le e rfl (fun e => ?_) (fun e => ?_)
    · exact wp_lv (lv' := [(0, .int v0)]) rfl ⟨rfl, trivial⟩ (x_Bytes_isLetter_12 e c)
    · refine wp_p (j := J_Bytes_isLetter) 2 (pc' := 29) (lv' := [(0, .int v0)]) (st' := [.int 1]) rfl ?_
      have e := Option.some.inj e; subst e; exact wp_iret (ty := .boolean) rfl rfl (by decide) c
noncomputable def M_Reader_isTag (v0 : Nat) (v1 : Int32) (g : g_S) : Option Int32 :=
  (rQ g 108 v0 8).bind fun z1 =>
  (aI g 1 z1 v1).bind fun z2 =>
  if z2 = 60 then
    (rI g 108 v0 9).bind fun z3 =>
    if (v1 + 1) < z3 then
      (rQ g 108 v0 8).bind fun z4 =>
      (aI g 1 z4 (v1 + 1)).bind fun z5 =>
      (M_Bytes_isLetter z5 g).bind fun z6 =>
      if z6 = 0 then
        (rQ g 108 v0 8).bind fun z7 =>
        (aI g 1 z7 (v1 + 1)).bind fun z8 =>
        if z8 = 47 then
          (rI g 108 v0 9).bind fun z9 =>
          if (v1 + 2) < z9 then
            (rQ g 108 v0 8).bind fun z10 =>
            (aI g 1 z10 (v1 + 2)).bind fun z11 =>
            (M_Bytes_isLetter z11 g).bind fun z12 =>
            if z12 = 0 then
              some 0
            else
              some 1
          else
            some 0
        else
          some 0
      else
        some 1
    else
      some 0
  else
    some 0
set_option maxRecDepth 20000 in
theorem d_Reader_isTag {L : Nat} {xs : Nat → Int32} {Q : Option Value → ab_H → Prop} {v0 : Nat} {v1 : Int32} {g : g_S} {out : Int32} (e : M_Reader_isTag v0 v1 g = some out) (c : Q (some (.int out)) (hp g)) : mw (ab_ext L xs) J_Reader_isTag [.ref v0, .int v1] (hp g) Q := by
  unfold M_Reader_isTag at e
  refine wp_p (j := J_Reader_isTag) 1 (pc' := 1) (lv' := [(0, .ref v0), (1, .int v1)]) (st' := [.ref v0]) rfl ?_
  refine x_gQ e rfl rfl fd_8_8 rfl (fun z1 e => ?_)
  refine wp_p (j := J_Reader_isTag) 1 (pc' := 5) (lv' := [(0, .ref v0), (1, .int v1)]) (st' := [.int v1, .ref z1]) rfl ?_
  refine x_aB e rfl (.inl rfl) rfl (fun z2 e => ?_)
  refine wp_p (j := J_Reader_isTag) 1 (pc' := 8) (lv' := [(0, .ref v0), (1, .int v1)]) (st' := [.int 60, .int z2]) rfl ?_
  refine x_ne e rfl (fun e => ?_) (fun e => ?_)
  · refine wp_p (j := J_Reader_isTag) 4 (pc' := 15) (lv' := [(0, .ref v0), (1, .int v1)]) (st' := [.ref v0, .int (v1 + 1)]) rfl ?_
    refine x_gI e rfl rfl fd_8_9 rfl (fun z3 e => ?_)
    refine x_lt e rfl (fun e => ?_) (fun e => ?_)
    · refine wp_p (j := J_Reader_isTag) 1 (pc' := 24) (lv' := [(0, .ref v0), (1, .int v1)]) (st' := [.ref v0]) rfl ?_
      refine x_gQ e rfl rfl fd_8_8 rfl (fun z4 e => ?_)
      refine wp_p (j := J_Reader_isTag) 3 (pc' := 30) (lv' := [(0, .ref v0), (1, .int v1)]) (st' := [.int (v1 + 1), .ref z4]) rfl ?_
      refine x_aB e rfl (.inl rfl) rfl (fun z5 e => ?_)
      refine x_cs1 (As := [.int z5]) (rest := []) Value.int e rfl rfl rfl rfl rfl (fun h => d_Bytes_isLetter h ⟨rfl, rfl⟩) (fun z6 e => ?_)
      refine z_ne e rfl (fun e => ?_) (fun e => ?_)
      · refine wp_p (j := J_Reader_isTag) 1 (pc' := 38) (lv' := [(0, .ref v0), (1, .int v1)]) (st' := [.ref v0]) rfl ?_
        refine x_gQ e rfl rfl fd_8_8 rfl (fun z7 e => ?_)
        refine wp_p (j := J_Reader_isTag) 3 (pc' := 44) (lv' := [(0, .ref v0), (1, .int v1)]) (st' := [.int (v1 + 1), .ref z7]) rfl ?_
        refine x_aB e rfl (.inl rfl) rfl (fun z8 e => ?_)
        refine wp_p (j := J_Reader_isTag) 1 (pc' := 47) (lv' := [(0, .ref v0), (1, .int v1)]) (st' := [.int 47, .int z8]) rfl ?_
        refine x_ne e rfl (fun e => ?_) (fun e => ?_)
        · refine wp_p (j := J_Reader_isTag) 4 (pc' := 54) (lv' := [(0, .ref v0), (1, .int v1)]) (st' := [.ref v0, .int (v1 + 2)]) rfl ?_
          refine x_gI e rfl rfl fd_8_9 rfl (fun z9 e => ?_)
          refine x_ge e rfl (fun e => ?_) (fun e => ?_)
          · refine wp_p (j := J_Reader_isTag) 1 (pc' := 61) (lv' := [(0, .ref v0), (1, .int v1)]) (st' := [.ref v0]) rfl ?_
            refine x_gQ e rfl rfl fd_8_8 rfl (fun z10 e => ?_)
            refine wp_p (j := J_Reader_isTag) 3 (pc' := 67) (lv' := [(0, .ref v0), (1, .int v1)]) (st' := [.int (v1 + 2), .ref z10]) rfl ?_
            refine x_aB e rfl (.inl rfl) rfl (fun z11 e => ?_)
            refine x_cs1 (As := [.int z11]) (rest := []) Value.int e rfl rfl rfl rfl rfl (fun h => d_Bytes_isLetter h ⟨rfl, rfl⟩) (fun z12 e => ?_)
            refine z_eq e rfl (fun e => ?_) (fun e => ?_)
            · refine wp_p (j := J_Reader_isTag) 1 (pc' := 79) (lv' := [(0, .ref v0), (1, .int v1)]) (st' := [.int 0]) rfl ?_
              have e := Option.some.inj e; subst e; exact wp_iret (ty := .boolean) rfl rfl (by decide) c
            · refine wp_p (j := J_Reader_isTag) 2 (pc' := 79) (lv' := [(0, .ref v0), (1, .int v1)]) (st' := [.int 1]) rfl ?_
              have e := Option.some.inj e; subst e; exact wp_iret (ty := .boolean) rfl rfl (by decide) c
          · refine wp_p (j := J_Reader_isTag) 1 (pc' := 79) (lv' := [(0, .ref v0), (1, .int v1)]) (st' := [.int 0]) rfl ?_
            have e := Option.some.inj e; subst e; exact wp_iret (ty := .boolean) rfl rfl (by decide) c
        · refine wp_p (j := J_Reader_isTag) 1 (pc' := 79) (lv' := [(0, .ref v0), (1, .int v1)]) (st' := [.int 0]) rfl ?_
          have e := Option.some.inj e; subst e; exact wp_iret (ty := .boolean) rfl rfl (by decide) c
      · refine wp_p (j := J_Reader_isTag) 2 (pc' := 79) (lv' := [(0, .ref v0), (1, .int v1)]) (st' := [.int 1]) rfl ?_
        have e := Option.some.inj e; subst e; exact wp_iret (ty := .boolean) rfl rfl (by decide) c
    · refine wp_p (j := J_Reader_isTag) 1 (pc' := 22) (lv' := [(0, .ref v0), (1, .int v1)]) (st' := [.int 0]) rfl ?_
      have e := Option.some.inj e; subst e; exact wp_iret (ty := .boolean) rfl rfl (by decide) c
  · refine wp_p (j := J_Reader_isTag) 1 (pc' := 22) (lv' := [(0, .ref v0), (1, .int v1)]) (st' := [.int 0]) rfl ?_
    have e := Option.some.inj e; subst e; exact wp_iret (ty := .boolean) rfl rfl (by decide) c
def cL_Bytes_packSmall_5 (L : Nat) (xs : Nat → Int32) (Q : Option Value → ab_H → Prop) (v0 : Nat) (v1 : Int32) (v2 : Int32) (g : g_S) (out : (Int64 × Int32) ⊕ (Int64)) : Prop := match out with
  | .inl s => wp (ab_ext L xs) J_Bytes_packSmall 5 [(0, .ref v0), (1, .int v1), (2, .int v2), (3, .long s.1), (5, .int s.2)] [] (hp g) Q
  | .inr s => wp (ab_ext L xs) J_Bytes_packSmall 77 [(3, .long s)] [] (hp g) Q
noncomputable def k_Bytes_packSmall_68 (v0 : Nat) (v1 : Int32) (v2 : Int32) (v5 : Int32) (w0 : Int32) (w1 : Int64) (g : g_S) : Option ((Int64 × Int32) ⊕ (Int64)) :=
  some (.inl (w1 ||| (Int32.toInt64 w0), v5 + 1))
set_option maxRecDepth 20000 in
theorem x_Bytes_packSmall_68 {L : Nat} {xs : Nat → Int32} {Q : Option Value → ab_H → Prop} {v0 : Nat} {v1 : Int32} {v2 : Int32} {v5 : Int32} {w0 : Int32} {w1 : Int64} {g : g_S} {out : (Int64 × Int32) ⊕ (Int64)} (e : k_Bytes_packSmall_68 v0 v1 v2 v5 w0 w1 g = some out) (c : cL_Bytes_packSmall_5 L xs Q v0 v1 v2 g out) : wp (ab_ext L xs) J_Bytes_packSmall 68 [(0, .ref v0), (1, .int v1), (2, .int v2), (5, .int v5)] [.int w0, .long w1] (hp g) Q := by
  unfold k_Bytes_packSmall_68 at e
  refine wp_p (j := J_Bytes_packSmall) 5 (pc' := 5) (lv' := [(5, .int (v5 + 1)), (3, .long (w1 ||| (Int32.toInt64 w0))), (0, .ref v0), (1, .int v1), (2, .int v2)]) (st' := []) rfl ?_
  have e := Option.some.inj e; subst e; exact wp_lv (lv' := [(0, .ref v0), (1, .int v1), (2, .int v2), (3, .long (w1 ||| (Int32.toInt64 w0))), (5, .int (v5 + 1))]) rfl ⟨rfl, rfl, rfl, rfl, rfl, trivial⟩ c
noncomputable def k_Bytes_packSmall_43 (v0 : Nat) (v1 : Int32) (v2 : Int32) (v3 : Int64) (v5 : Int32) (w0 : Int32) (g : g_S) : Option ((Int64 × Int32) ⊕ (Int64)) :=
  if w0 = 0 then
    (aI g 1 v0 v5).bind fun z1 =>
    k_Bytes_packSmall_68 v0 v1 v2 v5 z1 (v3 <<< ((8 : Int32).toInt64 &&& 63)) g
  else
    (aI g 1 v0 v5).bind fun z2 =>
    k_Bytes_packSmall_68 v0 v1 v2 v5 (z2 + 32) (v3 <<< ((8 : Int32).toInt64 &&& 63)) g
set_option maxRecDepth 20000 in
theorem x_Bytes_packSmall_43 {L : Nat} {xs : Nat → Int32} {Q : Option Value → ab_H → Prop} {v0 : Nat} {v1 : Int32} {v2 : Int32} {v3 : Int64} {v5 : Int32} {w0 : Int32} {g : g_S} {out : (Int64 × Int32) ⊕ (Int64)} (e : k_Bytes_packSmall_43 v0 v1 v2 v3 v5 w0 g = some out) (c : cL_Bytes_packSmall_5 L xs Q v0 v1 v2 g out) : wp (ab_ext L xs) J_Bytes_packSmall 43 [(0, .ref v0), (1, .int v1), (2, .int v2), (3, .long v3), (5, .int v5)] [.int w0] (hp g) Q := by
  unfold k_Bytes_packSmall_43 at e
  refine wp_p (j := J_Bytes_packSmall) 5 (pc' := 51) (lv' := [(6, .int w0), (0, .ref v0), (1, .int v1), (2, .int v2), (3, .long v3), (5, .int v5)]) (st' := [.int w0, .long (v3 <<< ((8 : Int32).toInt64 &&& 63))]) rfl ?_
  refine z_eq e rfl (fun e => ?_) (fun e => ?_)
  · refine wp_p (j := J_Bytes_packSmall) 2 (pc' := 67) (lv' := [(6, .int w0), (0, .ref v0), (1, .int v1), (2, .int v2), (3, .long v3), (5, .int v5)]) (st' := [.int v5, .ref v0, .long (v3 <<< ((8 : Int32).toInt64 &&& 63))]) rfl ?_
    refine x_aB e rfl (.inl rfl) rfl (fun z1 e => ?_)
    exact wp_lv (lv' := [(0, .ref v0), (1, .int v1), (2, .int v2), (5, .int v5)]) rfl ⟨rfl, rfl, rfl, rfl, trivial⟩ (x_Bytes_packSmall_68 e c)
  · refine wp_p (j := J_Bytes_packSmall) 2 (pc' := 57) (lv' := [(6, .int w0), (0, .ref v0), (1, .int v1), (2, .int v2), (3, .long v3), (5, .int v5)]) (st' := [.int v5, .ref v0, .long (v3 <<< ((8 : Int32).toInt64 &&& 63))]) rfl ?_
    refine x_aB e rfl (.inl rfl) rfl (fun z2 e => ?_)
    refine wp_p (j := J_Bytes_packSmall) 3 (pc' := 68) (lv' := [(6, .int w0), (0, .ref v0), (1, .int v1), (2, .int v2), (3, .long v3), (5, .int v5)]) (st' := [.int (z2 + 32), .long (v3 <<< ((8 : Int32).toInt64 &&& 63))]) rfl ?_
    exact wp_lv (lv' := [(0, .ref v0), (1, .int v1), (2, .int v2), (5, .int v5)]) rfl ⟨rfl, rfl, rfl, rfl, trivial⟩ (x_Bytes_packSmall_68 e c)
noncomputable def k_Bytes_packSmall_42 (v0 : Nat) (v1 : Int32) (v2 : Int32) (v3 : Int64) (v5 : Int32) (g : g_S) : Option ((Int64 × Int32) ⊕ (Int64)) :=
  k_Bytes_packSmall_43 v0 v1 v2 v3 v5 0 g
set_option maxRecDepth 20000 in
theorem x_Bytes_packSmall_42 {L : Nat} {xs : Nat → Int32} {Q : Option Value → ab_H → Prop} {v0 : Nat} {v1 : Int32} {v2 : Int32} {v3 : Int64} {v5 : Int32} {g : g_S} {out : (Int64 × Int32) ⊕ (Int64)} (e : k_Bytes_packSmall_42 v0 v1 v2 v3 v5 g = some out) (c : cL_Bytes_packSmall_5 L xs Q v0 v1 v2 g out) : wp (ab_ext L xs) J_Bytes_packSmall 42 [(0, .ref v0), (1, .int v1), (2, .int v2), (3, .long v3), (5, .int v5)] [] (hp g) Q := by
  unfold k_Bytes_packSmall_42 at e
  refine wp_p (j := J_Bytes_packSmall) 1 (pc' := 43) (lv' := [(0, .ref v0), (1, .int v1), (2, .int v2), (3, .long v3), (5, .int v5)]) (st' := [.int 0]) rfl ?_
  exact wp_lv (lv' := [(0, .ref v0), (1, .int v1), (2, .int v2), (3, .long v3), (5, .int v5)]) rfl ⟨rfl, rfl, rfl, rfl, rfl, trivial⟩ (x_Bytes_packSmall_43 e c)
noncomputable def b_Bytes_packSmall_5 (v0 : Nat) (v1 : Int32) (v2 : Int32) (v3 : Int64) (v5 : Int32) (g : g_S) : Option ((Int64 × Int32) ⊕ (Int64)) :=
  if v5 < v2 then
    if v5 < (v1 + 8) then
      (aI g 1 v0 v5).bind fun z1 =>
      if z1 < 65 then
        k_Bytes_packSmall_42 v0 v1 v2 v3 v5 g
      else
        (aI g 1 v0 v5).bind fun z2 =>
        if 90 < z2 then
          k_Bytes_packSmall_42 v0 v1 v2 v3 v5 g
        else
          k_Bytes_packSmall_43 v0 v1 v2 v3 v5 1 g
    else
      some (.inr v3)
  else
    some (.inr v3)
set_option maxRecDepth 20000 in
theorem y_Bytes_packSmall_5 {L : Nat} {xs : Nat → Int32} {Q : Option Value → ab_H → Prop} {v0 : Nat} {v1 : Int32} {v2 : Int32} {v3 : Int64} {v5 : Int32} {g : g_S} {out : (Int64 × Int32) ⊕ (Int64)} (e : b_Bytes_packSmall_5 v0 v1 v2 v3 v5 g = some out) (c : cL_Bytes_packSmall_5 L xs Q v0 v1 v2 g out) : wp (ab_ext L xs) J_Bytes_packSmall 5 [(0, .ref v0), (1, .int v1), (2, .int v2), (3, .long v3), (5, .int v5)] [] (hp g) Q := by
  unfold b_Bytes_packSmall_5 at e
  refine wp_p (j := J_Bytes_packSmall) 2 (pc' := 8) (lv' := [(0, .ref v0), (1, .int v1), (2, .int v2), (3, .long v3), (5, .int v5)]) (st' := [.int v2, .int v5]) rfl ?_
  refine x_ge e rfl (fun e => ?_) (fun e => ?_)
  · refine wp_p (j := J_Bytes_packSmall) 4 (pc' := 17) (lv' := [(0, .ref v0), (1, .int v1), (2, .int v2), (3, .long v3), (5, .int v5)]) (st' := [.int (v1 + 8), .int v5]) rfl ?_
    refine x_ge e rfl (fun e => ?_) (fun e => ?_)
    · refine wp_p (j := J_Bytes_packSmall) 2 (pc' := 23) (lv' := [(0, .ref v0), (1, .int v1), (2, .int v2), (3, .long v3), (5, .int v5)]) (st' := [.int v5, .ref v0]) rfl ?_
      refine x_aB e rfl (.inl rfl) rfl (fun z1 e => ?_)
      refine wp_p (j := J_Bytes_packSmall) 1 (pc' := 26) (lv' := [(0, .ref v0), (1, .int v1), (2, .int v2), (3, .long v3), (5, .int v5)]) (st' := [.int 65, .int z1]) rfl ?_
      refine x_lt e rfl (fun e => ?_) (fun e => ?_)
      · exact wp_lv (lv' := [(0, .ref v0), (1, .int v1), (2, .int v2), (3, .long v3), (5, .int v5)]) rfl ⟨rfl, rfl, rfl, rfl, rfl, trivial⟩ (x_Bytes_packSmall_42 e c)
      · refine wp_p (j := J_Bytes_packSmall) 2 (pc' := 32) (lv' := [(0, .ref v0), (1, .int v1), (2, .int v2), (3, .long v3), (5, .int v5)]) (st' := [.int v5, .ref v0]) rfl ?_
        refine x_aB e rfl (.inl rfl) rfl (fun z2 e => ?_)
        refine wp_p (j := J_Bytes_packSmall) 1 (pc' := 35) (lv' := [(0, .ref v0), (1, .int v1), (2, .int v2), (3, .long v3), (5, .int v5)]) (st' := [.int 90, .int z2]) rfl ?_
        refine x_gt e rfl (fun e => ?_) (fun e => ?_)
        · exact wp_lv (lv' := [(0, .ref v0), (1, .int v1), (2, .int v2), (3, .long v3), (5, .int v5)]) rfl ⟨rfl, rfl, rfl, rfl, rfl, trivial⟩ (x_Bytes_packSmall_42 e c)
        · refine wp_p (j := J_Bytes_packSmall) 2 (pc' := 43) (lv' := [(0, .ref v0), (1, .int v1), (2, .int v2), (3, .long v3), (5, .int v5)]) (st' := [.int 1]) rfl ?_
          exact wp_lv (lv' := [(0, .ref v0), (1, .int v1), (2, .int v2), (3, .long v3), (5, .int v5)]) rfl ⟨rfl, rfl, rfl, rfl, rfl, trivial⟩ (x_Bytes_packSmall_43 e c)
    · have e := Option.some.inj e; subst e; exact wp_lv (lv' := [(3, .long v3)]) rfl ⟨rfl, trivial⟩ c
  · have e := Option.some.inj e; subst e; exact wp_lv (lv' := [(3, .long v3)]) rfl ⟨rfl, trivial⟩ c
noncomputable def L_Bytes_packSmall_5 (v0 : Nat) (v1 : Int32) (v2 : Int32) (v3 : Int64) (v5 : Int32) (g : g_S) : Option (Int64) := it (fun s : Int64 × Int32 => b_Bytes_packSmall_5 v0 v1 v2 s.1 s.2 g) (v3, v5)
theorem l_Bytes_packSmall_5 {L : Nat} {xs : Nat → Int32} {Q : Option Value → ab_H → Prop} {v0 : Nat} {v1 : Int32} {v2 : Int32} {v3 : Int64} {v5 : Int32} {g : g_S} {r : Int64} (e : L_Bytes_packSmall_5 v0 v1 v2 v3 v5 g = some r) (c : cL_Bytes_packSmall_5 L xs Q v0 v1 v2 g (.inr r)) : wp (ab_ext L xs) J_Bytes_packSmall 5 [(0, .ref v0), (1, .int v1), (2, .int v2), (3, .long v3), (5, .int v5)] [] (hp g) Q :=
  it_wp (P := fun s : Int64 × Int32 => wp (ab_ext L xs) J_Bytes_packSmall 5 [(0, .ref v0), (1, .int v1), (2, .int v2), (3, .long s.1), (5, .int s.2)] [] (hp g) Q) (E := fun r => cL_Bytes_packSmall_5 L xs Q v0 v1 v2 g (.inr r)) (fun s out e c => y_Bytes_packSmall_5 e (by cases out <;> exact c)) e c
theorem L_Bytes_packSmall_5_eq (v0 : Nat) (v1 : Int32) (v2 : Int32) (v3 : Int64) (v5 : Int32) (g : g_S) : L_Bytes_packSmall_5 v0 v1 v2 v3 v5 g = itc (b_Bytes_packSmall_5 v0 v1 v2 v3 v5 g) (fun s => L_Bytes_packSmall_5 v0 v1 v2 s.1 s.2 g) := it_eq2 (fun s : Int64 × Int32 => b_Bytes_packSmall_5 v0 v1 v2 s.1 s.2 g) (v3, v5)
noncomputable def M_Bytes_packSmall (v0 : Nat) (v1 : Int32) (v2 : Int32) (g : g_S) : Option Int64 :=
  (L_Bytes_packSmall_5 v0 v1 v2 0 v1 g).bind <| fun z3 =>
  some z3
set_option maxRecDepth 20000 in
theorem d_Bytes_packSmall {L : Nat} {xs : Nat → Int32} {Q : Option Value → ab_H → Prop} {v0 : Nat} {v1 : Int32} {v2 : Int32} {g : g_S} {out : Int64} (e : M_Bytes_packSmall v0 v1 v2 g = some out) (c : Q (some (.long out)) (hp g)) : mw (ab_ext L xs) J_Bytes_packSmall [.ref v0, .int v1, .int v2] (hp g) Q := by
  unfold M_Bytes_packSmall at e
  refine wp_p (j := J_Bytes_packSmall) 4 (pc' := 5) (lv' := [(5, .int v1), (3, .long 0), (0, .ref v0), (1, .int v1), (2, .int v2)]) (st' := []) rfl ?_
  obtain ⟨z3, h2, e⟩ := bd e
  refine wp_lv (lv' := [(0, .ref v0), (1, .int v1), (2, .int v2), (3, .long 0), (5, .int v1)]) rfl ⟨rfl, rfl, rfl, rfl, rfl, trivial⟩ ?_
  refine l_Bytes_packSmall_5 h2 ?_
  show wp (ab_ext L xs) J_Bytes_packSmall 77 [(3, .long z3)] [] (hp g) Q
  refine wp_p (j := J_Bytes_packSmall) 1 (pc' := 78) (lv' := [(3, .long z3)]) (st' := [.long z3]) rfl ?_
  have e := Option.some.inj e; subst e; exact wp_lret rfl rfl c
def cL_Reader_quoteEnd_2 (L : Nat) (xs : Nat → Int32) (Q : Option Value → ab_H → Prop) (v0 : Nat) (v2 : Int32) (g : g_S) (out : (Int32) ⊕ (Int32)) : Prop := match out with
  | .inl s => wp (ab_ext L xs) J_Reader_quoteEnd 2 [(0, .ref v0), (2, .int v2), (3, .int s)] [] (hp g) Q
  | .inr s => wp (ab_ext L xs) J_Reader_quoteEnd 26 [(3, .int s)] [] (hp g) Q
noncomputable def b_Reader_quoteEnd_2 (v0 : Nat) (v2 : Int32) (v3 : Int32) (g : g_S) : Option ((Int32) ⊕ (Int32)) :=
  (rI g 108 v0 9).bind fun z1 =>
  if v3 < z1 then
    (rQ g 108 v0 8).bind fun z2 =>
    (aI g 1 z2 v3).bind fun z3 =>
    if z3 = v2 then
      some (.inr v3)
    else
      some (.inl (v3 + 1))
  else
    some (.inr v3)
set_option maxRecDepth 20000 in
theorem y_Reader_quoteEnd_2 {L : Nat} {xs : Nat → Int32} {Q : Option Value → ab_H → Prop} {v0 : Nat} {v2 : Int32} {v3 : Int32} {g : g_S} {out : (Int32) ⊕ (Int32)} (e : b_Reader_quoteEnd_2 v0 v2 v3 g = some out) (c : cL_Reader_quoteEnd_2 L xs Q v0 v2 g out) : wp (ab_ext L xs) J_Reader_quoteEnd 2 [(0, .ref v0), (2, .int v2), (3, .int v3)] [] (hp g) Q := by
  unfold b_Reader_quoteEnd_2 at e
  refine wp_p (j := J_Reader_quoteEnd) 2 (pc' := 4) (lv' := [(0, .ref v0), (2, .int v2), (3, .int v3)]) (st' := [.ref v0, .int v3]) rfl ?_
  refine x_gI e rfl rfl fd_8_9 rfl (fun z1 e => ?_)
  refine x_ge e rfl (fun e => ?_) (fun e => ?_)
  · refine wp_p (j := J_Reader_quoteEnd) 1 (pc' := 11) (lv' := [(0, .ref v0), (2, .int v2), (3, .int v3)]) (st' := [.ref v0]) rfl ?_
    refine x_gQ e rfl rfl fd_8_8 rfl (fun z2 e => ?_)
    refine wp_p (j := J_Reader_quoteEnd) 1 (pc' := 15) (lv' := [(0, .ref v0), (2, .int v2), (3, .int v3)]) (st' := [.int v3, .ref z2]) rfl ?_
    refine x_aB e rfl (.inl rfl) rfl (fun z3 e => ?_)
    refine wp_p (j := J_Reader_quoteEnd) 1 (pc' := 17) (lv' := [(0, .ref v0), (2, .int v2), (3, .int v3)]) (st' := [.int v2, .int z3]) rfl ?_
    refine x_eq e rfl (fun e => ?_) (fun e => ?_)
    · have e := Option.some.inj e; subst e; exact wp_lv (lv' := [(3, .int v3)]) rfl ⟨rfl, trivial⟩ c
    · refine wp_p (j := J_Reader_quoteEnd) 2 (pc' := 2) (lv' := [(3, .int (v3 + 1)), (0, .ref v0), (2, .int v2)]) (st' := []) rfl ?_
      have e := Option.some.inj e; subst e; exact wp_lv (lv' := [(0, .ref v0), (2, .int v2), (3, .int (v3 + 1))]) rfl ⟨rfl, rfl, rfl, trivial⟩ c
  · have e := Option.some.inj e; subst e; exact wp_lv (lv' := [(3, .int v3)]) rfl ⟨rfl, trivial⟩ c
noncomputable def L_Reader_quoteEnd_2 (v0 : Nat) (v2 : Int32) (v3 : Int32) (g : g_S) : Option (Int32) := it (fun s : Int32 => b_Reader_quoteEnd_2 v0 v2 s g) (v3)
theorem l_Reader_quoteEnd_2 {L : Nat} {xs : Nat → Int32} {Q : Option Value → ab_H → Prop} {v0 : Nat} {v2 : Int32} {v3 : Int32} {g : g_S} {r : Int32} (e : L_Reader_quoteEnd_2 v0 v2 v3 g = some r) (c : cL_Reader_quoteEnd_2 L xs Q v0 v2 g (.inr r)) : wp (ab_ext L xs) J_Reader_quoteEnd 2 [(0, .ref v0), (2, .int v2), (3, .int v3)] [] (hp g) Q :=
  it_wp (P := fun s : Int32 => wp (ab_ext L xs) J_Reader_quoteEnd 2 [(0, .ref v0), (2, .int v2), (3, .int s)] [] (hp g) Q) (E := fun r => cL_Reader_quoteEnd_2 L xs Q v0 v2 g (.inr r)) (fun s out e c => y_Reader_quoteEnd_2 e (by cases out <;> exact c)) e c
theorem L_Reader_quoteEnd_2_eq (v0 : Nat) (v2 : Int32) (v3 : Int32) (g : g_S) : L_Reader_quoteEnd_2 v0 v2 v3 g = itc (b_Reader_quoteEnd_2 v0 v2 v3 g) (fun s => L_Reader_quoteEnd_2 v0 v2 s g) := it_eq2 (fun s : Int32 => b_Reader_quoteEnd_2 v0 v2 s g) (v3)
noncomputable def M_Reader_quoteEnd (v0 : Nat) (v1 : Int32) (v2 : Int32) (g : g_S) : Option Int32 :=
  (L_Reader_quoteEnd_2 v0 v2 v1 g).bind <| fun z3 =>
  some z3
set_option maxRecDepth 20000 in
theorem d_Reader_quoteEnd {L : Nat} {xs : Nat → Int32} {Q : Option Value → ab_H → Prop} {v0 : Nat} {v1 : Int32} {v2 : Int32} {g : g_S} {out : Int32} (e : M_Reader_quoteEnd v0 v1 v2 g = some out) (c : Q (some (.int out)) (hp g)) : mw (ab_ext L xs) J_Reader_quoteEnd [.ref v0, .int v1, .int v2] (hp g) Q := by
  unfold M_Reader_quoteEnd at e
  refine wp_p (j := J_Reader_quoteEnd) 2 (pc' := 2) (lv' := [(3, .int v1), (0, .ref v0), (1, .int v1), (2, .int v2)]) (st' := []) rfl ?_
  obtain ⟨z3, h2, e⟩ := bd e
  refine wp_lv (lv' := [(0, .ref v0), (2, .int v2), (3, .int v1)]) rfl ⟨rfl, rfl, rfl, trivial⟩ ?_
  refine l_Reader_quoteEnd_2 h2 ?_
  show wp (ab_ext L xs) J_Reader_quoteEnd 26 [(3, .int z3)] [] (hp g) Q
  refine wp_p (j := J_Reader_quoteEnd) 1 (pc' := 27) (lv' := [(3, .int z3)]) (st' := [.int z3]) rfl ?_
  have e := Option.some.inj e; subst e; exact wp_iret (ty := .int) rfl rfl rfl c
def cL_Reader_plainEnd_2 (L : Nat) (xs : Nat → Int32) (Q : Option Value → ab_H → Prop) (v0 : Nat) (g : g_S) (out : (Int32) ⊕ (Int32)) : Prop := match out with
  | .inl s => wp (ab_ext L xs) J_Reader_plainEnd 2 [(0, .ref v0), (2, .int s)] [] (hp g) Q
  | .inr s => wp (ab_ext L xs) J_Reader_plainEnd 39 [(2, .int s)] [] (hp g) Q
noncomputable def b_Reader_plainEnd_2 (v0 : Nat) (v2 : Int32) (g : g_S) : Option ((Int32) ⊕ (Int32)) :=
  (rI g 108 v0 9).bind fun z1 =>
  if v2 < z1 then
    (rQ g 108 v0 8).bind fun z2 =>
    (aI g 1 z2 v2).bind fun z3 =>
    if z3 = 62 then
      some (.inr v2)
    else
      (rQ g 108 v0 8).bind fun z4 =>
      (aI g 1 z4 v2).bind fun z5 =>
      (M_Bytes_isBlank z5 g).bind fun z6 =>
      if z6 = 0 then
        some (.inl (v2 + 1))
      else
        some (.inr v2)
  else
    some (.inr v2)
set_option maxRecDepth 20000 in
theorem y_Reader_plainEnd_2 {L : Nat} {xs : Nat → Int32} {Q : Option Value → ab_H → Prop} {v0 : Nat} {v2 : Int32} {g : g_S} {out : (Int32) ⊕ (Int32)} (e : b_Reader_plainEnd_2 v0 v2 g = some out) (c : cL_Reader_plainEnd_2 L xs Q v0 g out) : wp (ab_ext L xs) J_Reader_plainEnd 2 [(0, .ref v0), (2, .int v2)] [] (hp g) Q := by
  unfold b_Reader_plainEnd_2 at e
  refine wp_p (j := J_Reader_plainEnd) 2 (pc' := 4) (lv' := [(0, .ref v0), (2, .int v2)]) (st' := [.ref v0, .int v2]) rfl ?_
  refine x_gI e rfl rfl fd_8_9 rfl (fun z1 e => ?_)
  refine x_ge e rfl (fun e => ?_) (fun e => ?_)
  · refine wp_p (j := J_Reader_plainEnd) 1 (pc' := 11) (lv' := [(0, .ref v0), (2, .int v2)]) (st' := [.ref v0]) rfl ?_
    refine x_gQ e rfl rfl fd_8_8 rfl (fun z2 e => ?_)
    refine wp_p (j := J_Reader_plainEnd) 1 (pc' := 15) (lv' := [(0, .ref v0), (2, .int v2)]) (st' := [.int v2, .ref z2]) rfl ?_
    refine x_aB e rfl (.inl rfl) rfl (fun z3 e => ?_)
    refine wp_p (j := J_Reader_plainEnd) 1 (pc' := 18) (lv' := [(0, .ref v0), (2, .int v2)]) (st' := [.int 62, .int z3]) rfl ?_
    refine x_eq e rfl (fun e => ?_) (fun e => ?_)
    · have e := Option.some.inj e; subst e; exact wp_lv (lv' := [(2, .int v2)]) rfl ⟨rfl, trivial⟩ c
    · refine wp_p (j := J_Reader_plainEnd) 1 (pc' := 22) (lv' := [(0, .ref v0), (2, .int v2)]) (st' := [.ref v0]) rfl ?_
      refine x_gQ e rfl rfl fd_8_8 rfl (fun z4 e => ?_)
      refine wp_p (j := J_Reader_plainEnd) 1 (pc' := 26) (lv' := [(0, .ref v0), (2, .int v2)]) (st' := [.int v2, .ref z4]) rfl ?_
      refine x_aB e rfl (.inl rfl) rfl (fun z5 e => ?_)
      refine x_cs1 (As := [.int z5]) (rest := []) Value.int e rfl rfl rfl rfl rfl (fun h => d_Bytes_isBlank h ⟨rfl, rfl⟩) (fun z6 e => ?_)
      refine z_ne e rfl (fun e => ?_) (fun e => ?_)
      · refine wp_p (j := J_Reader_plainEnd) 2 (pc' := 2) (lv' := [(2, .int (v2 + 1)), (0, .ref v0)]) (st' := []) rfl ?_
        have e := Option.some.inj e; subst e; exact wp_lv (lv' := [(0, .ref v0), (2, .int (v2 + 1))]) rfl ⟨rfl, rfl, trivial⟩ c
      · have e := Option.some.inj e; subst e; exact wp_lv (lv' := [(2, .int v2)]) rfl ⟨rfl, trivial⟩ c
  · have e := Option.some.inj e; subst e; exact wp_lv (lv' := [(2, .int v2)]) rfl ⟨rfl, trivial⟩ c
noncomputable def L_Reader_plainEnd_2 (v0 : Nat) (v2 : Int32) (g : g_S) : Option (Int32) := it (fun s : Int32 => b_Reader_plainEnd_2 v0 s g) (v2)
theorem l_Reader_plainEnd_2 {L : Nat} {xs : Nat → Int32} {Q : Option Value → ab_H → Prop} {v0 : Nat} {v2 : Int32} {g : g_S} {r : Int32} (e : L_Reader_plainEnd_2 v0 v2 g = some r) (c : cL_Reader_plainEnd_2 L xs Q v0 g (.inr r)) : wp (ab_ext L xs) J_Reader_plainEnd 2 [(0, .ref v0), (2, .int v2)] [] (hp g) Q :=
  it_wp (P := fun s : Int32 => wp (ab_ext L xs) J_Reader_plainEnd 2 [(0, .ref v0), (2, .int s)] [] (hp g) Q) (E := fun r => cL_Reader_plainEnd_2 L xs Q v0 g (.inr r)) (fun s out e c => y_Reader_plainEnd_2 e (by cases out <;> exact c)) e c
theorem L_Reader_plainEnd_2_eq (v0 : Nat) (v2 : Int32) (g : g_S) : L_Reader_plainEnd_2 v0 v2 g = itc (b_Reader_plainEnd_2 v0 v2 g) (fun s => L_Reader_plainEnd_2 v0 s g) := it_eq2 (fun s : Int32 => b_Reader_plainEnd_2 v0 s g) (v2)
noncomputable def M_Reader_plainEnd (v0 : Nat) (v1 : Int32) (g : g_S) : Option Int32 :=
  (L_Reader_plainEnd_2 v0 v1 g).bind <| fun z3 =>
  some z3
set_option maxRecDepth 20000 in
theorem d_Reader_plainEnd {L : Nat} {xs : Nat → Int32} {Q : Option Value → ab_H → Prop} {v0 : Nat} {v1 : Int32} {g : g_S} {out : Int32} (e : M_Reader_plainEnd v0 v1 g = some out) (c : Q (some (.int out)) (hp g)) : mw (ab_ext L xs) J_Reader_plainEnd [.ref v0, .int v1] (hp g) Q := by
  unfold M_Reader_plainEnd at e
  refine wp_p (j := J_Reader_plainEnd) 2 (pc' := 2) (lv' := [(2, .int v1), (0, .ref v0), (1, .int v1)]) (st' := []) rfl ?_
  obtain ⟨z3, h2, e⟩ := bd e
  refine wp_lv (lv' := [(0, .ref v0), (2, .int v1)]) rfl ⟨rfl, rfl, trivial⟩ ?_
  refine l_Reader_plainEnd_2 h2 ?_
  show wp (ab_ext L xs) J_Reader_plainEnd 39 [(2, .int z3)] [] (hp g) Q
  refine wp_p (j := J_Reader_plainEnd) 1 (pc' := 40) (lv' := [(2, .int z3)]) (st' := [.int z3]) rfl ?_
  have e := Option.some.inj e; subst e; exact wp_iret (ty := .int) rfl rfl rfl c
def cL_Node_find_2 (L : Nat) (xs : Nat → Int32) (Q : Option Value → ab_H → Prop) (v0 : Nat) (v1 : Int64) (g : g_S) (out : (Int32) ⊕ ((Int32) ⊕ (Unit))) : Prop := match out with
  | .inl s => wp (ab_ext L xs) J_Node_find 2 [(0, .ref v0), (1, .long v1), (3, .int s)] [] (hp g) Q
  | .inr (.inl s) => wp (ab_ext L xs) J_Node_find 21 [(0, .ref v0), (3, .int s)] [] (hp g) Q
  | .inr (.inr s) => wp (ab_ext L xs) J_Node_find 34 [] [] (hp g) Q
noncomputable def b_Node_find_2 (v0 : Nat) (v1 : Int64) (v3 : Int32) (g : g_S) : Option ((Int32) ⊕ ((Int32) ⊕ (Unit))) :=
  (rI g 107 v0 12).bind fun z1 =>
  if v3 < z1 then
    (rQ g 107 v0 13).bind fun z2 =>
    (aL g z2 v3).bind fun z3 =>
    if (lg_cmp z3 v1) = 0 then
      some (.inr (.inl v3))
    else
      some (.inl (v3 + 1))
  else
    some (.inr (.inr ()))
set_option maxRecDepth 20000 in
theorem y_Node_find_2 {L : Nat} {xs : Nat → Int32} {Q : Option Value → ab_H → Prop} {v0 : Nat} {v1 : Int64} {v3 : Int32} {g : g_S} {out : (Int32) ⊕ ((Int32) ⊕ (Unit))} (e : b_Node_find_2 v0 v1 v3 g = some out) (c : cL_Node_find_2 L xs Q v0 v1 g out) : wp (ab_ext L xs) J_Node_find 2 [(0, .ref v0), (1, .long v1), (3, .int v3)] [] (hp g) Q := by
  unfold b_Node_find_2 at e
  refine wp_p (j := J_Node_find) 2 (pc' := 4) (lv' := [(0, .ref v0), (1, .long v1), (3, .int v3)]) (st' := [.ref v0, .int v3]) rfl ?_
  refine x_gI e rfl rfl fd_7_12 rfl (fun z1 e => ?_)
  refine x_ge e rfl (fun e => ?_) (fun e => ?_)
  · refine wp_p (j := J_Node_find) 1 (pc' := 11) (lv' := [(0, .ref v0), (1, .long v1), (3, .int v3)]) (st' := [.ref v0]) rfl ?_
    refine x_gQ e rfl rfl fd_7_13 rfl (fun z2 e => ?_)
    refine wp_p (j := J_Node_find) 1 (pc' := 15) (lv' := [(0, .ref v0), (1, .long v1), (3, .int v3)]) (st' := [.int v3, .ref z2]) rfl ?_
    refine x_aL e rfl rfl (fun z3 e => ?_)
    refine wp_p (j := J_Node_find) 2 (pc' := 18) (lv' := [(0, .ref v0), (1, .long v1), (3, .int v3)]) (st' := [.int (lg_cmp z3 v1)]) rfl ?_
    refine z_ne e rfl (fun e => ?_) (fun e => ?_)
    · have e := Option.some.inj e; subst e; exact wp_lv (lv' := [(0, .ref v0), (3, .int v3)]) rfl ⟨rfl, rfl, trivial⟩ c
    · refine wp_p (j := J_Node_find) 2 (pc' := 2) (lv' := [(3, .int (v3 + 1)), (0, .ref v0), (1, .long v1)]) (st' := []) rfl ?_
      have e := Option.some.inj e; subst e; exact wp_lv (lv' := [(0, .ref v0), (1, .long v1), (3, .int (v3 + 1))]) rfl ⟨rfl, rfl, rfl, trivial⟩ c
  · have e := Option.some.inj e; subst e; exact wp_lv (lv' := []) rfl trivial c
noncomputable def L_Node_find_2 (v0 : Nat) (v1 : Int64) (v3 : Int32) (g : g_S) : Option ((Int32) ⊕ (Unit)) := it (fun s : Int32 => b_Node_find_2 v0 v1 s g) (v3)
theorem l_Node_find_2 {L : Nat} {xs : Nat → Int32} {Q : Option Value → ab_H → Prop} {v0 : Nat} {v1 : Int64} {v3 : Int32} {g : g_S} {r : (Int32) ⊕ (Unit)} (e : L_Node_find_2 v0 v1 v3 g = some r) (c : cL_Node_find_2 L xs Q v0 v1 g (.inr r)) : wp (ab_ext L xs) J_Node_find 2 [(0, .ref v0), (1, .long v1), (3, .int v3)] [] (hp g) Q :=
  it_wp (P := fun s : Int32 => wp (ab_ext L xs) J_Node_find 2 [(0, .ref v0), (1, .long v1), (3, .int s)] [] (hp g) Q) (E := fun r => cL_Node_find_2 L xs Q v0 v1 g (.inr r)) (fun s out e c => y_Node_find_2 e (by cases out <;> exact c)) e c
theorem L_Node_find_2_eq (v0 : Nat) (v1 : Int64) (v3 : Int32) (g : g_S) : L_Node_find_2 v0 v1 v3 g = itc (b_Node_find_2 v0 v1 v3 g) (fun s => L_Node_find_2 v0 v1 s g) := it_eq2 (fun s : Int32 => b_Node_find_2 v0 v1 s g) (v3)
noncomputable def M_Node_find (v0 : Nat) (v1 : Int64) (g : g_S) : Option (Option Nat) :=
  (L_Node_find_2 v0 v1 0 g).bind <|
    us (fun z3 =>
    (rQ g 107 v0 14).bind fun z4 =>
    (aQ g 4 z4 z3).bind fun z5 =>
    some (some z5))
    (fun _ =>
    some none)
set_option maxRecDepth 20000 in
theorem d_Node_find {L : Nat} {xs : Nat → Int32} {Q : Option Value → ab_H → Prop} {v0 : Nat} {v1 : Int64} {g : g_S} {out : (Option Nat)} (e : M_Node_find v0 v1 g = some out) (c : Q (some (va_rf out)) (hp g)) : mw (ab_ext L xs) J_Node_find [.ref v0, .long v1] (hp g) Q := by
  unfold M_Node_find at e
  refine wp_p (j := J_Node_find) 2 (pc' := 2) (lv' := [(3, .int 0), (0, .ref v0), (1, .long v1)]) (st' := []) rfl ?_
  obtain ⟨s1, h2, e⟩ := bd e
  refine wp_lv (lv' := [(0, .ref v0), (1, .long v1), (3, .int 0)]) rfl ⟨rfl, rfl, rfl, trivial⟩ ?_
  refine l_Node_find_2 h2 ?_
  rcases s1 with z3 | _
  · replace e := (us_l e)
    show wp (ab_ext L xs) J_Node_find 21 [(0, .ref v0), (3, .int z3)] [] (hp g) Q
    refine wp_p (j := J_Node_find) 1 (pc' := 22) (lv' := [(0, .ref v0), (3, .int z3)]) (st' := [.ref v0]) rfl ?_
    refine x_gQ e rfl rfl fd_7_14 rfl (fun z4 e => ?_)
    refine wp_p (j := J_Node_find) 1 (pc' := 26) (lv' := [(0, .ref v0), (3, .int z3)]) (st' := [.int z3, .ref z4]) rfl ?_
    refine x_aQ e rfl rfl rfl (fun z5 e => ?_)
    have e := Option.some.inj e; subst e; exact wp_r rfl rfl rfl rfl rfl c
  · replace e := (us_r e)
    show wp (ab_ext L xs) J_Node_find 34 [] [] (hp g) Q
    refine wp_p (j := J_Node_find) 1 (pc' := 35) (lv' := []) (st' := [.null]) rfl ?_
    have e := Option.some.inj e; subst e; exact wp_r rfl rfl rfl rfl rfl c
noncomputable def M_Node_addAttribute (v0 : Nat) (v1 : Int64) (g : g_S) : Option ((Option Nat) × g_S) :=
  (rI g 107 v0 12).bind fun z1 =>
  if z1 = 4 then
    some (none, g)
  else
    (rQ g 107 v0 13).bind fun z2 =>
    (rI g 107 v0 12).bind fun z3 =>
    (sL g z2 z3 v1).bind fun g4 =>
    (rQ g4 107 v0 14).bind fun z5 =>
    (rI g4 107 v0 12).bind fun z6 =>
    (aQ g4 4 z5 z6).bind fun z7 =>
    (vc g4 104 z7 (M_Bytes_clear z7 g4)).bind fun g8 =>
    (rI g8 107 v0 12).bind fun z9 =>
    (wI g8 107 v0 12 (z9 + 1)).bind fun g10 =>
    some ((some z7), g10)
set_option maxRecDepth 20000 in
theorem d_Node_addAttribute {L : Nat} {xs : Nat → Int32} {Q : Option Value → ab_H → Prop} {v0 : Nat} {v1 : Int64} {g : g_S} {out : (Option Nat) × g_S} (e : M_Node_addAttribute v0 v1 g = some out) (c : Q (some (va_rf out.1)) (hp out.2)) : mw (ab_ext L xs) J_Node_addAttribute [.ref v0, .long v1] (hp g) Q := by
  unfold M_Node_addAttribute at e
  refine wp_p (j := J_Node_addAttribute) 1 (pc' := 1) (lv' := [(0, .ref v0), (1, .long v1)]) (st' := [.ref v0]) rfl ?_
  refine x_gI e rfl rfl fd_7_12 rfl (fun z1 e => ?_)
  refine wp_p (j := J_Node_addAttribute) 1 (pc' := 5) (lv' := [(0, .ref v0), (1, .long v1)]) (st' := [.int 4, .int z1]) rfl ?_
  refine x_ne e rfl (fun e => ?_) (fun e => ?_)
  · refine wp_p (j := J_Node_addAttribute) 1 (pc' := 9) (lv' := [(0, .ref v0), (1, .long v1)]) (st' := [.null]) rfl ?_
    have e := Option.some.inj e; subst e; exact wp_r rfl rfl rfl rfl rfl c
  · refine wp_p (j := J_Node_addAttribute) 1 (pc' := 11) (lv' := [(0, .ref v0), (1, .long v1)]) (st' := [.ref v0]) rfl ?_
    refine x_gQ e rfl rfl fd_7_13 rfl (fun z2 e => ?_)
    refine wp_p (j := J_Node_addAttribute) 1 (pc' := 15) (lv' := [(0, .ref v0), (1, .long v1)]) (st' := [.ref v0, .ref z2]) rfl ?_
    refine x_gI e rfl rfl fd_7_12 rfl (fun z3 e => ?_)
    refine wp_p (j := J_Node_addAttribute) 1 (pc' := 19) (lv' := [(0, .ref v0), (1, .long v1)]) (st' := [.long v1, .int z3, .ref z2]) rfl ?_
    refine x_sL e rfl rfl (fun g4 e => ?_)
    refine wp_p (j := J_Node_addAttribute) 1 (pc' := 21) (lv' := [(0, .ref v0), (1, .long v1)]) (st' := [.ref v0]) rfl ?_
    refine x_gQ e rfl rfl fd_7_14 rfl (fun z5 e => ?_)
    refine wp_p (j := J_Node_addAttribute) 1 (pc' := 25) (lv' := [(0, .ref v0), (1, .long v1)]) (st' := [.ref v0, .ref z5]) rfl ?_
    refine x_gI e rfl rfl fd_7_12 rfl (fun z6 e => ?_)
    refine x_aQ e rfl rfl rfl (fun z7 e => ?_)
    refine wp_p (j := J_Node_addAttribute) 2 (pc' := 31) (lv' := [(3, .ref z7), (0, .ref v0), (1, .long v1)]) (st' := [.ref z7]) rfl ?_
    refine x_cv0 (As := []) (rest := []) e rfl rfl rfl rfl rfl rfl (fun h => d_Bytes_clear h ⟨rfl, rfl⟩) (fun g8 e => ?_)
    refine wp_p (j := J_Node_addAttribute) 2 (pc' := 36) (lv' := [(3, .ref z7), (0, .ref v0), (1, .long v1)]) (st' := [.ref v0, .ref v0]) rfl ?_
    refine x_gI e rfl rfl fd_7_12 rfl (fun z9 e => ?_)
    refine wp_p (j := J_Node_addAttribute) 2 (pc' := 41) (lv' := [(3, .ref z7), (0, .ref v0), (1, .long v1)]) (st' := [.int (z9 + 1), .ref v0]) rfl ?_
    refine x_pI e rfl rfl fw_7_12 rfl (fun g10 e => ?_)
    refine wp_p (j := J_Node_addAttribute) 1 (pc' := 45) (lv' := [(3, .ref z7), (0, .ref v0), (1, .long v1)]) (st' := [.ref z7]) rfl ?_
    have e := Option.some.inj e; subst e; exact wp_r rfl rfl rfl rfl rfl c
