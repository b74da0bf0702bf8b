/-! methods as functions, group 4 -/
noncomputable def M_H_showAttribute (v0 : Nat) (v1 : Int32) (v2 : Int64) (g : g_S) : Option (Int32 × g_S) :=
  (vc g 111 v0 (M_H_isElement v0 v1 g)).bind fun z1 =>
  if z1 = 0 then
    some ((-1), g)
  else
    (rQ g 111 v0 2).bind fun z2 =>
    (rQ g 110 z2 0).bind fun z3 =>
    (aQ g 5 z3 v1).bind fun z4 =>
    (vc g 107 z4 (M_Node_find z4 v2 g)).bind fun z5 =>
    oc z5
      (fun q6 =>
      c2 (vc g 111 v0 (M_H_showBytes v0 q6 g)) fun z7 g8 =>
      some (z7, g8))
      (
      some ((-1), g))
set_option maxRecDepth 20000 in
theorem d_H_showAttribute {L : Nat} {xs : Nat → Int32} {Q : Option Value → ab_H → Prop} {v0 : Nat} {v1 : Int32} {v2 : Int64} {g : g_S} {out : Int32 × g_S} (e : M_H_showAttribute v0 v1 v2 g = some out) (c : Q (some (.int out.1)) (hp out.2)) : mw (ab_ext L xs) J_H_showAttribute [.ref v0, .int v1, .long v2] (hp g) Q := by
  unfold M_H_showAttribute at e
  refine wp_p (j := J_H_showAttribute) 2 (pc' := 2) (lv' := [(0, .ref v0), (1, .int v1), (2, .long v2)]) (st' := [.int v1, .ref v0]) rfl ?_
  refine x_cv1 (As := [.int v1]) (rest := []) Value.int e rfl rfl rfl rfl rfl rfl (fun h => d_H_isElement h ⟨rfl, rfl⟩) (fun z1 e => ?_)
  refine z_ne e rfl (fun e => ?_) (fun e => ?_)
  · refine wp_p (j := J_H_showAttribute) 1 (pc' := 9) (lv' := [(0, .ref v0), (1, .int v1), (2, .long v2)]) (st' := [.int (-1)]) rfl ?_
    have e := Option.some.inj e; subst e; exact wp_iret (ty := .int) rfl rfl rfl c
  · refine wp_p (j := J_H_showAttribute) 1 (pc' := 11) (lv' := [(0, .ref v0), (1, .int v1), (2, .long v2)]) (st' := [.ref v0]) rfl ?_
    refine x_gQ e rfl rfl fd_11_2 rfl (fun z2 e => ?_)
    refine x_gQ e rfl rfl fd_10_0 rfl (fun z3 e => ?_)
    refine wp_p (j := J_H_showAttribute) 1 (pc' := 18) (lv' := [(0, .ref v0), (1, .int v1), (2, .long v2)]) (st' := [.int v1, .ref z3]) rfl ?_
    refine x_aQ e rfl rfl rfl (fun z4 e => ?_)
    refine wp_p (j := J_H_showAttribute) 1 (pc' := 20) (lv' := [(0, .ref v0), (1, .int v1), (2, .long v2)]) (st' := [.long v2, .ref z4]) rfl ?_
    refine x_cv1 (As := [.long v2]) (rest := []) va_rf e rfl rfl rfl rfl rfl rfl (fun h => d_Node_find h ⟨rfl, rfl⟩) (fun z5 e => ?_)
    rcases z5 with _ | q6
    · replace e := oc_n e
      show wp (ab_ext L xs) J_H_showAttribute 23 [(0, .ref v0), (1, .int v1), (2, .long v2)] [.null] (hp g) Q
      refine wp_p (j := J_H_showAttribute) 2 (pc' := 27) (lv' := [(4, .null), (0, .ref v0), (1, .int v1), (2, .long v2)]) (st' := [.null]) rfl ?_
      refine wp_b (pc' := 30) (st' := []) rfl rfl rfl ?_
      refine wp_p (j := J_H_showAttribute) 2 (pc' := 40) (lv' := [(4, .null), (0, .ref v0), (1, .int v1), (2, .long v2)]) (st' := [.int (-1)]) rfl ?_
      have e := Option.some.inj e; subst e; exact wp_iret (ty := .int) rfl rfl rfl c
    · replace e := oc_s e
      show wp (ab_ext L xs) J_H_showAttribute 23 [(0, .ref v0), (1, .int v1), (2, .long v2)] [.ref q6] (hp g) Q
      refine wp_p (j := J_H_showAttribute) 2 (pc' := 27) (lv' := [(4, .ref q6), (0, .ref v0), (1, .int v1), (2, .long v2)]) (st' := [.ref q6]) rfl ?_
      refine wp_b (pc' := 34) (st' := []) rfl rfl rfl ?_
      refine wp_p (j := J_H_showAttribute) 2 (pc' := 37) (lv' := [(4, .ref q6), (0, .ref v0), (1, .int v1), (2, .long v2)]) (st' := [.ref q6, .ref v0]) rfl ?_
      refine x_cv2 (As := [.ref q6]) (rest := []) Value.int e rfl rfl rfl rfl rfl rfl (fun h => d_H_showBytes h ⟨rfl, rfl⟩) (fun z7 g8 e => ?_)
      have e := Option.some.inj e; subst e; exact wp_iret (ty := .int) rfl rfl rfl c
noncomputable def k_H_attribute_70 (v0 : Nat) (v2 : Int32) (g : g_S) : Option (Int32 × g_S) :=
  (rQ g 111 v0 0).bind fun z1 =>
  (vc g 104 z1 (M_Bytes_clear z1 g)).bind fun g2 =>
  some (v2, g2)
set_option maxRecDepth 20000 in
theorem x_H_attribute_70 {L : Nat} {xs : Nat → Int32} {Q : Option Value → ab_H → Prop} {v0 : Nat} {v2 : Int32} {g : g_S} {out : Int32 × g_S} (e : k_H_attribute_70 v0 v2 g = some out) (c : Q (some (.int out.1)) (hp out.2)) : wp (ab_ext L xs) J_H_attribute 70 [(0, .ref v0), (2, .int v2)] [] (hp g) Q := by
  unfold k_H_attribute_70 at e
  refine wp_p (j := J_H_attribute) 1 (pc' := 71) (lv' := [(0, .ref v0), (2, .int v2)]) (st' := [.ref v0]) rfl ?_
  refine x_gQ e rfl rfl fd_11_0 rfl (fun z1 e => ?_)
  refine x_cv0 (As := []) (rest := []) e rfl rfl rfl rfl rfl rfl (fun h => d_Bytes_clear h ⟨rfl, rfl⟩) (fun g2 e => ?_)
  refine wp_p (j := J_H_attribute) 1 (pc' := 78) (lv' := [(0, .ref v0), (2, .int v2)]) (st' := [.int v2]) rfl ?_
  have e := Option.some.inj e; subst e; exact wp_iret (ty := .int) rfl rfl rfl c
noncomputable def k_H_attribute_43 (v0 : Nat) (v3 : Int32) (g : g_S) : Option (Int32 × g_S) :=
  k_H_attribute_70 v0 ((-1000) - v3) g
set_option maxRecDepth 20000 in
theorem x_H_attribute_43 {L : Nat} {xs : Nat → Int32} {Q : Option Value → ab_H → Prop} {v0 : Nat} {v3 : Int32} {g : g_S} {out : Int32 × g_S} (e : k_H_attribute_43 v0 v3 g = some out) (c : Q (some (.int out.1)) (hp out.2)) : wp (ab_ext L xs) J_H_attribute 43 [(0, .ref v0), (3, .int v3)] [] (hp g) Q := by
  unfold k_H_attribute_43 at e
  refine wp_p (j := J_H_attribute) 5 (pc' := 70) (lv' := [(2, .int ((-1000) - v3)), (0, .ref v0), (3, .int v3)]) (st' := []) rfl ?_
  exact wp_lv (lv' := [(0, .ref v0), (2, .int ((-1000) - v3))]) rfl ⟨rfl, rfl, trivial⟩ (x_H_attribute_70 e c)
noncomputable def M_H_attribute (v0 : Nat) (v1 : Int32) (g : g_S) : Option (Int32 × g_S) :=
  (vc g 111 v0 (M_H_wrongByte v0 g)).bind fun z1 =>
  if z1 = 0 then
    (rQ g 111 v0 0).bind fun z2 =>
    (rQ g 104 z2 1).bind fun z3 =>
    (rQ g 111 v0 0).bind fun z4 =>
    (rI g 104 z4 2).bind fun z5 =>
    (M_Bytes_nameEnd z3 0 z5 g).bind fun z6 =>
    if z6 = 0 then
      k_H_attribute_43 v0 z6 g
    else
      (rQ g 111 v0 0).bind fun z7 =>
      (rI g 104 z7 2).bind fun z8 =>
      if z6 < z8 then
        k_H_attribute_43 v0 z6 g
      else
        (rQ g 111 v0 0).bind fun z9 =>
        (rQ g 104 z9 1).bind fun z10 =>
        (M_Bytes_pack z10 0 z6 g).bind fun z11 =>
        c2 (vc g 111 v0 (M_H_showAttribute v0 v1 z11 g)) fun z12 g13 =>
        k_H_attribute_70 v0 z12 g13
  else
    k_H_attribute_70 v0 z1 g
set_option maxRecDepth 20000 in
theorem d_H_attribute {L : Nat} {xs : Nat → Int32} {Q : Option Value → ab_H → Prop} {v0 : Nat} {v1 : Int32} {g : g_S} {out : Int32 × g_S} (e : M_H_attribute v0 v1 g = some out) (c : Q (some (.int out.1)) (hp out.2)) : mw (ab_ext L xs) J_H_attribute [.ref v0, .int v1] (hp g) Q := by
  unfold M_H_attribute at e
  refine wp_p (j := J_H_attribute) 1 (pc' := 1) (lv' := [(0, .ref v0), (1, .int v1)]) (st' := [.ref v0]) rfl ?_
  refine x_cv1 (As := []) (rest := []) Value.int e rfl rfl rfl rfl rfl rfl (fun h => d_H_wrongByte h ⟨rfl, rfl⟩) (fun z1 e => ?_)
  refine wp_p (j := J_H_attribute) 2 (pc' := 6) (lv' := [(2, .int z1), (0, .ref v0), (1, .int v1)]) (st' := [.int z1]) rfl ?_
  refine z_ne e rfl (fun e => ?_) (fun e => ?_)
  · refine wp_p (j := J_H_attribute) 1 (pc' := 10) (lv' := [(2, .int z1), (0, .ref v0), (1, .int v1)]) (st' := [.ref v0]) rfl ?_
    refine x_gQ e rfl rfl fd_11_0 rfl (fun z2 e => ?_)
    refine x_gQ e rfl rfl fd_4_1 rfl (fun z3 e => ?_)
    refine wp_p (j := J_H_attribute) 2 (pc' := 18) (lv' := [(2, .int z1), (0, .ref v0), (1, .int v1)]) (st' := [.ref v0, .int 0, .ref z3]) rfl ?_
    refine x_gQ e rfl rfl fd_11_0 rfl (fun z4 e => ?_)
    refine x_gI e rfl rfl fd_4_2 rfl (fun z5 e => ?_)
    refine x_cs1 (As := [.ref z3, .int 0, .int z5]) (rest := []) Value.int e rfl rfl rfl rfl rfl (fun h => d_Bytes_nameEnd h ⟨rfl, rfl⟩) (fun z6 e => ?_)
    refine wp_p (j := J_H_attribute) 2 (pc' := 29) (lv' := [(3, .int z6), (2, .int z1), (0, .ref v0), (1, .int v1)]) (st' := [.int z6]) rfl ?_
    refine z_eq e rfl (fun e => ?_) (fun e => ?_)
    · exact wp_lv (lv' := [(0, .ref v0), (3, .int z6)]) rfl ⟨rfl, rfl, trivial⟩ (x_H_attribute_43 e c)
    · refine wp_p (j := J_H_attribute) 2 (pc' := 34) (lv' := [(3, .int z6), (2, .int z1), (0, .ref v0), (1, .int v1)]) (st' := [.ref v0, .int z6]) rfl ?_
      refine x_gQ e rfl rfl fd_11_0 rfl (fun z7 e => ?_)
      refine x_gI e rfl rfl fd_4_2 rfl (fun z8 e => ?_)
      refine x_ge e rfl (fun e => ?_) (fun e => ?_)
      · exact wp_lv (lv' := [(0, .ref v0), (3, .int z6)]) rfl ⟨rfl, rfl, trivial⟩ (x_H_attribute_43 e c)
      · refine wp_p (j := J_H_attribute) 3 (pc' := 55) (lv' := [(3, .int z6), (2, .int z1), (0, .ref v0), (1, .int v1)]) (st' := [.ref v0, .int v1, .ref v0]) rfl ?_
        refine x_gQ e rfl rfl fd_11_0 rfl (fun z9 e => ?_)
        refine x_gQ e rfl rfl fd_4_1 rfl (fun z10 e => ?_)
        refine wp_p (j := J_H_attribute) 2 (pc' := 63) (lv' := [(3, .int z6), (2, .int z1), (0, .ref v0), (1, .int v1)]) (st' := [.int z6, .int 0, .ref z10, .int v1, .ref v0]) rfl ?_
        refine x_cs1 (As := [.ref z10, .int 0, .int z6]) (rest := [.int v1, .ref v0]) Value.long e rfl rfl rfl rfl rfl (fun h => d_Bytes_pack h ⟨rfl, rfl⟩) (fun z11 e => ?_)
        refine x_cv2 (As := [.int v1, .long z11]) (rest := []) Value.int e rfl rfl rfl rfl rfl rfl (fun h => d_H_showAttribute h ⟨rfl, rfl⟩) (fun z12 g13 e => ?_)
        refine wp_p (j := J_H_attribute) 1 (pc' := 70) (lv' := [(2, .int z12), (3, .int z6), (0, .ref v0), (1, .int v1)]) (st' := []) rfl ?_
        exact wp_lv (lv' := [(0, .ref v0), (2, .int z12)]) rfl ⟨rfl, rfl, trivial⟩ (x_H_attribute_70 e c)
  · exact wp_lv (lv' := [(0, .ref v0), (2, .int z1)]) rfl ⟨rfl, rfl, trivial⟩ (x_H_attribute_70 e c)
def cL_Tree_printMasked_2 (L : Nat) (xs : Nat → Int32) (Q : Option Value → ab_H → Prop) (v0 : Nat) (v1 : Nat) (out : (Int32 × g_S) ⊕ (g_S)) : Prop := match out with
  | .inl s => wp (ab_ext L xs) J_Tree_printMasked 2 [(0, .ref v0), (1, .ref v1), (2, .int s.1)] [] (hp s.2) Q
  | .inr s => wp (ab_ext L xs) J_Tree_printMasked 112 [] [] (hp s) Q
noncomputable def b_Tree_printMasked_2 (v0 : Nat) (v1 : Nat) (v2 : Int32) (g : g_S) : Option ((Int32 × g_S) ⊕ (g_S)) :=
  (rI g 104 v0 2).bind fun z1 =>
  if v2 < z1 then
    (rQ g 104 v0 1).bind fun z2 =>
    (aI g 1 z2 v2).bind fun z3 =>
    if z3 = 34 then
      (vc g 104 v1 (M_Bytes_addText v1 1000035 g)).bind fun g5 =>
      some (.inl (v2 + 1, g5))
    else if z3 = 38 then
      (vc g 104 v1 (M_Bytes_addText v1 1000034 g)).bind fun g7 =>
      some (.inl (v2 + 1, g7))
    else if z3 = 60 then
      (vc g 104 v1 (M_Bytes_addText v1 1000032 g)).bind fun g9 =>
      some (.inl (v2 + 1, g9))
    else if z3 = 62 then
      (vc g 104 v1 (M_Bytes_addText v1 1000033 g)).bind fun g11 =>
      some (.inl (v2 + 1, g11))
    else
      (rQ g 104 v0 1).bind fun z12 =>
      (aI g 1 z12 v2).bind fun z13 =>
      (vc g 104 v1 (M_Bytes_add v1 z13 g)).bind fun g14 =>
      some (.inl (v2 + 1, g14))
  else
    some (.inr g)
set_option maxRecDepth 20000 in
theorem y_Tree_printMasked_2 {L : Nat} {xs : Nat → Int32} {Q : Option Value → ab_H → Prop} {v0 : Nat} {v1 : Nat} {v2 : Int32} {g : g_S} {out : (Int32 × g_S) ⊕ (g_S)} (e : b_Tree_printMasked_2 v0 v1 v2 g = some out) (c : cL_Tree_printMasked_2 L xs Q v0 v1 out) : wp (ab_ext L xs) J_Tree_printMasked 2 [(0, .ref v0), (1, .ref v1), (2, .int v2)] [] (hp g) Q := by
  unfold b_Tree_printMasked_2 at e
  refine wp_p (j := J_Tree_printMasked) 2 (pc' := 4) (lv' := [(0, .ref v0), (1, .ref v1), (2, .int v2)]) (st' := [.ref v0, .int v2]) rfl ?_
  refine x_gI e rfl rfl fd_4_2 rfl (fun z1 e => ?_)
  refine x_ge e rfl (fun e => ?_) (fun e => ?_)
  · refine wp_p (j := J_Tree_printMasked) 1 (pc' := 11) (lv' := [(0, .ref v0), (1, .ref v1), (2, .int v2)]) (st' := [.ref v0]) rfl ?_
    refine x_gQ e rfl rfl fd_4_1 rfl (fun z2 e => ?_)
    refine wp_p (j := J_Tree_printMasked) 1 (pc' := 15) (lv' := [(0, .ref v0), (1, .ref v1), (2, .int v2)]) (st' := [.int v2, .ref z2]) rfl ?_
    refine x_aB e rfl (.inl rfl) rfl (fun z3 e => ?_)
    refine x_if e (fun h4 e => ?_) (fun h4 e => ?_)
    · refine x_sw (cst := 34) (pc' := 87) (rest := []) h4 rfl rfl rfl ?_
      refine wp_p (j := J_Tree_printMasked) 1 (pc' := 88) (lv' := [(0, .ref v0), (1, .ref v1), (2, .int v2)]) (st' := [.ref v1]) rfl ?_
      refine x_ls rfl rfl ?_
      refine x_cv0 (As := [.ref 1000035]) (rest := []) e rfl rfl rfl rfl rfl rfl (fun h => d_Bytes_addText h ⟨rfl, rfl⟩) (fun g5 e => ?_)
      refine wp_p (j := J_Tree_printMasked) 3 (pc' := 2) (lv' := [(2, .int (v2 + 1)), (0, .ref v0), (1, .ref v1)]) (st' := []) rfl ?_
      have e := Option.some.inj e; subst e; exact wp_lv (lv' := [(0, .ref v0), (1, .ref v1), (2, .int (v2 + 1))]) rfl ⟨rfl, rfl, rfl, trivial⟩ c
    refine x_if e (fun h6 e => ?_) (fun h6 e => ?_)
    · refine x_sw (cst := 38) (pc' := 78) (rest := []) h6 rfl rfl rfl ?_
      refine wp_p (j := J_Tree_printMasked) 1 (pc' := 79) (lv' := [(0, .ref v0), (1, .ref v1), (2, .int v2)]) (st' := [.ref v1]) rfl ?_
      refine x_ls rfl rfl ?_
      refine x_cv0 (As := [.ref 1000034]) (rest := []) e rfl rfl rfl rfl rfl rfl (fun h => d_Bytes_addText h ⟨rfl, rfl⟩) (fun g7 e => ?_)
      refine wp_p (j := J_Tree_printMasked) 3 (pc' := 2) (lv' := [(2, .int (v2 + 1)), (0, .ref v0), (1, .ref v1)]) (st' := []) rfl ?_
      have e := Option.some.inj e; subst e; exact wp_lv (lv' := [(0, .ref v0), (1, .ref v1), (2, .int (v2 + 1))]) rfl ⟨rfl, rfl, rfl, trivial⟩ c
    refine x_if e (fun h8 e => ?_) (fun h8 e => ?_)
    · refine x_sw (cst := 60) (pc' := 60) (rest := []) h8 rfl rfl rfl ?_
      refine wp_p (j := J_Tree_printMasked) 1 (pc' := 61) (lv' := [(0, .ref v0), (1, .ref v1), (2, .int v2)]) (st' := [.ref v1]) rfl ?_
      refine x_ls rfl rfl ?_
      refine x_cv0 (As := [.ref 1000032]) (rest := []) e rfl rfl rfl rfl rfl rfl (fun h => d_Bytes_addText h ⟨rfl, rfl⟩) (fun g9 e => ?_)
      refine wp_p (j := J_Tree_printMasked) 3 (pc' := 2) (lv' := [(2, .int (v2 + 1)), (0, .ref v0), (1, .ref v1)]) (st' := []) rfl ?_
      have e := Option.some.inj e; subst e; exact wp_lv (lv' := [(0, .ref v0), (1, .ref v1), (2, .int (v2 + 1))]) rfl ⟨rfl, rfl, rfl, trivial⟩ c
    refine x_if e (fun h10 e => ?_) (fun h10 e => ?_)
    · refine x_sw (cst := 62) (pc' := 69) (rest := []) h10 rfl rfl rfl ?_
      refine wp_p (j := J_Tree_printMasked) 1 (pc' := 70) (lv' := [(0, .ref v0), (1, .ref v1), (2, .int v2)]) (st' := [.ref v1]) rfl ?_
      refine x_ls rfl rfl ?_
      refine x_cv0 (As := [.ref 1000033]) (rest := []) e rfl rfl rfl rfl rfl rfl (fun h => d_Bytes_addText h ⟨rfl, rfl⟩) (fun g11 e => ?_)
      refine wp_p (j := J_Tree_printMasked) 3 (pc' := 2) (lv' := [(2, .int (v2 + 1)), (0, .ref v0), (1, .ref v1)]) (st' := []) rfl ?_
      have e := Option.some.inj e; subst e; exact wp_lv (lv' := [(0, .ref v0), (1, .ref v1), (2, .int (v2 + 1))]) rfl ⟨rfl, rfl, rfl, trivial⟩ c
    refine wp_b (pc' := 96) (st' := []) rfl rfl ((lk_d (x := z3) (ps := #[(34, 71), (38, 62), (60, 44), (62, 53)]) rfl ⟨h4, h6, h8, h10, trivial⟩).trans rfl) ?_
    refine wp_p (j := J_Tree_printMasked) 2 (pc' := 98) (lv' := [(0, .ref v0), (1, .ref v1), (2, .int v2)]) (st' := [.ref v0, .ref v1]) rfl ?_
    refine x_gQ e rfl rfl fd_4_1 rfl (fun z12 e => ?_)
    refine wp_p (j := J_Tree_printMasked) 1 (pc' := 102) (lv' := [(0, .ref v0), (1, .ref v1), (2, .int v2)]) (st' := [.int v2, .ref z12, .ref v1]) rfl ?_
    refine x_aB e rfl (.inl rfl) rfl (fun z13 e => ?_)
    refine x_cv0 (As := [.int z13]) (rest := []) e rfl rfl rfl rfl rfl rfl (fun h => d_Bytes_add h ⟨rfl, rfl⟩) (fun g14 e => ?_)
    refine wp_p (j := J_Tree_printMasked) 2 (pc' := 2) (lv' := [(2, .int (v2 + 1)), (0, .ref v0), (1, .ref v1)]) (st' := []) rfl ?_
    have e := Option.some.inj e; subst e; exact wp_lv (lv' := [(0, .ref v0), (1, .ref v1), (2, .int (v2 + 1))]) rfl ⟨rfl, rfl, rfl, trivial⟩ c
  · have e := Option.some.inj e; subst e; exact wp_lv (lv' := []) rfl trivial c
noncomputable def L_Tree_printMasked_2 (v0 : Nat) (v1 : Nat) (v2 : Int32) (g : g_S) : Option (g_S) := it (fun s : Int32 × g_S => b_Tree_printMasked_2 v0 v1 s.1 s.2) (v2, g)
theorem l_Tree_printMasked_2 {L : Nat} {xs : Nat → Int32} {Q : Option Value → ab_H → Prop} {v0 : Nat} {v1 : Nat} {v2 : Int32} {g : g_S} {r : g_S} (e : L_Tree_printMasked_2 v0 v1 v2 g = some r) (c : cL_Tree_printMasked_2 L xs Q v0 v1 (.inr r)) : wp (ab_ext L xs) J_Tree_printMasked 2 [(0, .ref v0), (1, .ref v1), (2, .int v2)] [] (hp g) Q :=
  it_wp (P := fun s : Int32 × g_S => wp (ab_ext L xs) J_Tree_printMasked 2 [(0, .ref v0), (1, .ref v1), (2, .int s.1)] [] (hp s.2) Q) (E := fun r => cL_Tree_printMasked_2 L xs Q v0 v1 (.inr r)) (fun s out e c => y_Tree_printMasked_2 e (by cases out <;> exact c)) e c
theorem L_Tree_printMasked_2_eq (v0 : Nat) (v1 : Nat) (v2 : Int32) (g : g_S) : L_Tree_printMasked_2 v0 v1 v2 g = itc (b_Tree_printMasked_2 v0 v1 v2 g) (fun s => L_Tree_printMasked_2 v0 v1 s.1 s.2) := it_eq2 (fun s : Int32 × g_S => b_Tree_printMasked_2 v0 v1 s.1 s.2) (v2, g)
noncomputable def M_Tree_printMasked (v0 : Nat) (v1 : Nat) (g : g_S) : Option g_S :=
  (L_Tree_printMasked_2 v0 v1 0 g).bind <| fun g3 =>
  some g3
set_option maxRecDepth 20000 in
theorem d_Tree_printMasked {L : Nat} {xs : Nat → Int32} {Q : Option Value → ab_H → Prop} {v0 : Nat} {v1 : Nat} {g : g_S} {out : g_S} (e : M_Tree_printMasked v0 v1 g = some out) (c : Q none (hp out)) : mw (ab_ext L xs) J_Tree_printMasked [.ref v0, .ref v1] (hp g) Q := by
  unfold M_Tree_printMasked at e
  refine wp_p (j := J_Tree_printMasked) 2 (pc' := 2) (lv' := [(2, .int 0), (0, .ref v0), (1, .ref v1)]) (st' := []) rfl ?_
  obtain ⟨g3, h2, e⟩ := bd e
  refine wp_lv (lv' := [(0, .ref v0), (1, .ref v1), (2, .int 0)]) rfl ⟨rfl, rfl, rfl, trivial⟩ ?_
  refine l_Tree_printMasked_2 h2 ?_
  show wp (ab_ext L xs) J_Tree_printMasked 112 [] [] (hp g3) Q
  have e := Option.some.inj e; subst e; exact wp_vret rfl rfl c
def cL_Tree_printStart_89 (L : Nat) (xs : Nat → Int32) (Q : Option Value → ab_H → Prop) (v2 : Nat) (v3 : Nat) (out : (Int32 × g_S) ⊕ (g_S)) : Prop := match out with
  | .inl s => wp (ab_ext L xs) J_Tree_printStart 89 [(2, .ref v2), (3, .ref v3), (4, .int s.1)] [] (hp s.2) Q
  | .inr s => wp (ab_ext L xs) J_Tree_printStart 144 [(2, .ref v2)] [] (hp s) Q
noncomputable def b_Tree_printStart_89 (v2 : Nat) (v3 : Nat) (v4 : Int32) (g : g_S) : Option ((Int32 × g_S) ⊕ (g_S)) :=
  (rI g 107 v3 12).bind fun z1 =>
  if v4 < z1 then
    (vc g 104 v2 (M_Bytes_add v2 32 g)).bind fun g2 =>
    (rQ g2 107 v3 13).bind fun z3 =>
    (aL g2 z3 v4).bind fun z4 =>
    (vc g2 104 v2 (M_Bytes_addPacked v2 z4 g2)).bind fun g5 =>
    (vc g5 104 v2 (M_Bytes_addText v2 1000036 g5)).bind fun g6 =>
    (rQ g6 107 v3 14).bind fun z7 =>
    (aQ g6 4 z7 v4).bind fun z8 =>
    (M_Tree_printMasked z8 v2 g6).bind fun g9 =>
    (vc g9 104 v2 (M_Bytes_add v2 34 g9)).bind fun g10 =>
    some (.inl (v4 + 1, g10))
  else
    some (.inr g)
set_option maxRecDepth 20000 in
theorem y_Tree_printStart_89 {L : Nat} {xs : Nat → Int32} {Q : Option Value → ab_H → Prop} {v2 : Nat} {v3 : Nat} {v4 : Int32} {g : g_S} {out : (Int32 × g_S) ⊕ (g_S)} (e : b_Tree_printStart_89 v2 v3 v4 g = some out) (c : cL_Tree_printStart_89 L xs Q v2 v3 out) : wp (ab_ext L xs) J_Tree_printStart 89 [(2, .ref v2), (3, .ref v3), (4, .int v4)] [] (hp g) Q := by
  unfold b_Tree_printStart_89 at e
  refine wp_p (j := J_Tree_printStart) 2 (pc' := 92) (lv' := [(2, .ref v2), (3, .ref v3), (4, .int v4)]) (st' := [.ref v3, .int v4]) rfl ?_
  refine x_gI e rfl rfl fd_7_12 rfl (fun z1 e => ?_)
  refine x_ge e rfl (fun e => ?_) (fun e => ?_)
  · refine wp_p (j := J_Tree_printStart) 2 (pc' := 101) (lv' := [(2, .ref v2), (3, .ref v3), (4, .int v4)]) (st' := [.int 32, .ref v2]) rfl ?_
    refine x_cv0 (As := [.int 32]) (rest := []) e rfl rfl rfl rfl rfl rfl (fun h => d_Bytes_add h ⟨rfl, rfl⟩) (fun g2 e => ?_)
    refine wp_p (j := J_Tree_printStart) 2 (pc' := 106) (lv' := [(2, .ref v2), (3, .ref v3), (4, .int v4)]) (st' := [.ref v3, .ref v2]) rfl ?_
    refine x_gQ e rfl rfl fd_7_13 rfl (fun z3 e => ?_)
    refine wp_p (j := J_Tree_printStart) 1 (pc' := 111) (lv' := [(2, .ref v2), (3, .ref v3), (4, .int v4)]) (st' := [.int v4, .ref z3, .ref v2]) rfl ?_
    refine x_aL e rfl rfl (fun z4 e => ?_)
    refine x_cv0 (As := [.long z4]) (rest := []) e rfl rfl rfl rfl rfl rfl (fun h => d_Bytes_addPacked h ⟨rfl, rfl⟩) (fun g5 e => ?_)
    refine wp_p (j := J_Tree_printStart) 1 (pc' := 116) (lv' := [(2, .ref v2), (3, .ref v3), (4, .int v4)]) (st' := [.ref v2]) rfl ?_
    refine x_ls rfl rfl ?_
    refine x_cv0 (As := [.ref 1000036]) (rest := []) e rfl rfl rfl rfl rfl rfl (fun h => d_Bytes_addText h ⟨rfl, rfl⟩) (fun g6 e => ?_)
    refine wp_p (j := J_Tree_printStart) 1 (pc' := 122) (lv' := [(2, .ref v2), (3, .ref v3), (4, .int v4)]) (st' := [.ref v3]) rfl ?_
    refine x_gQ e rfl rfl fd_7_14 rfl (fun z7 e => ?_)
    refine wp_p (j := J_Tree_printStart) 1 (pc' := 127) (lv' := [(2, .ref v2), (3, .ref v3), (4, .int v4)]) (st' := [.int v4, .ref z7]) rfl ?_
    refine x_aQ e rfl rfl rfl (fun z8 e => ?_)
    refine wp_p (j := J_Tree_printStart) 1 (pc' := 129) (lv' := [(2, .ref v2), (3, .ref v3), (4, .int v4)]) (st' := [.ref v2, .ref z8]) rfl ?_
    refine x_cs0 (As := [.ref z8, .ref v2]) (rest := []) e rfl rfl rfl rfl rfl (fun h => d_Tree_printMasked h ⟨rfl, rfl⟩) (fun g9 e => ?_)
    refine wp_p (j := J_Tree_printStart) 2 (pc' := 135) (lv' := [(2, .ref v2), (3, .ref v3), (4, .int v4)]) (st' := [.int 34, .ref v2]) rfl ?_
    refine x_cv0 (As := [.int 34]) (rest := []) e rfl rfl rfl rfl rfl rfl (fun h => d_Bytes_add h ⟨rfl, rfl⟩) (fun g10 e => ?_)
    refine wp_p (j := J_Tree_printStart) 2 (pc' := 89) (lv' := [(4, .int (v4 + 1)), (2, .ref v2), (3, .ref v3)]) (st' := []) rfl ?_
    have e := Option.some.inj e; subst e; exact wp_lv (lv' := [(2, .ref v2), (3, .ref v3), (4, .int (v4 + 1))]) rfl ⟨rfl, rfl, rfl, trivial⟩ c
  · have e := Option.some.inj e; subst e; exact wp_lv (lv' := [(2, .ref v2)]) rfl ⟨rfl, trivial⟩ c
noncomputable def L_Tree_printStart_89 (v2 : Nat) (v3 : Nat) (v4 : Int32) (g : g_S) : Option (g_S) := it (fun s : Int32 × g_S => b_Tree_printStart_89 v2 v3 s.1 s.2) (v4, g)
theorem l_Tree_printStart_89 {L : Nat} {xs : Nat → Int32} {Q : Option Value → ab_H → Prop} {v2 : Nat} {v3 : Nat} {v4 : Int32} {g : g_S} {r : g_S} (e : L_Tree_printStart_89 v2 v3 v4 g = some r) (c : cL_Tree_printStart_89 L xs Q v2 v3 (.inr r)) : wp (ab_ext L xs) J_Tree_printStart 89 [(2, .ref v2), (3, .ref v3), (4, .int v4)] [] (hp g) Q :=
  it_wp (P := fun s : Int32 × g_S => wp (ab_ext L xs) J_Tree_printStart 89 [(2, .ref v2), (3, .ref v3), (4, .int s.1)] [] (hp s.2) Q) (E := fun r => cL_Tree_printStart_89 L xs Q v2 v3 (.inr r)) (fun s out e c => y_Tree_printStart_89 e (by cases out <;> exact c)) e c
theorem L_Tree_printStart_89_eq (v2 : Nat) (v3 : Nat) (v4 : Int32) (g : g_S) : L_Tree_printStart_89 v2 v3 v4 g = itc (b_Tree_printStart_89 v2 v3 v4 g) (fun s => L_Tree_printStart_89 v2 v3 s.1 s.2) := it_eq2 (fun s : Int32 × g_S => b_Tree_printStart_89 v2 v3 s.1 s.2) (v4, g)
noncomputable def k_Tree_printStart_63 (v2 : Nat) (v3 : Nat) (g : g_S) : Option g_S :=
  (rQ g 107 v3 11).bind fun z1 =>
  (M_Tree_printMasked z1 v2 g).bind fun g2 =>
  some g2
set_option maxRecDepth 20000 in
theorem x_Tree_printStart_63 {L : Nat} {xs : Nat → Int32} {Q : Option Value → ab_H → Prop} {v2 : Nat} {v3 : Nat} {g : g_S} {out : g_S} (e : k_Tree_printStart_63 v2 v3 g = some out) (c : Q none (hp out)) : wp (ab_ext L xs) J_Tree_printStart 63 [(2, .ref v2), (3, .ref v3)] [] (hp g) Q := by
  unfold k_Tree_printStart_63 at e
  refine wp_p (j := J_Tree_printStart) 1 (pc' := 64) (lv' := [(2, .ref v2), (3, .ref v3)]) (st' := [.ref v3]) rfl ?_
  refine x_gQ e rfl rfl fd_7_11 rfl (fun z1 e => ?_)
  refine wp_p (j := J_Tree_printStart) 1 (pc' := 68) (lv' := [(2, .ref v2), (3, .ref v3)]) (st' := [.ref v2, .ref z1]) rfl ?_
  refine x_cs0 (As := [.ref z1, .ref v2]) (rest := []) e rfl rfl rfl rfl rfl (fun h => d_Tree_printMasked h ⟨rfl, rfl⟩) (fun g2 e => ?_)
  have e := Option.some.inj e; subst e; exact wp_vret rfl rfl c
noncomputable def M_Tree_printStart (v0 : Nat) (v1 : Int32) (v2 : Nat) (g : g_S) : Option g_S :=
  (rQ g 110 v0 0).bind fun z1 =>
  (aQ g 5 z1 v1).bind fun z2 =>
  (rI g 107 z2 0).bind fun z3 =>
  if z3 = 17 then
    (rI g 107 z2 2).bind fun z4 =>
    if z4 = (-1) then
      k_Tree_printStart_63 v2 z2 g
    else
      (rQ g 110 v0 0).bind fun z5 =>
      (rI g 107 z2 2).bind fun z6 =>
      (aQ g 5 z5 z6).bind fun z7 =>
      (rI g 107 z7 0).bind fun z8 =>
      if z8 = 15 then
        (rQ g 107 z2 11).bind fun z9 =>
        (rQ g 104 z9 1).bind fun z10 =>
        (rQ g 107 z2 11).bind fun z11 =>
        (rI g 104 z11 2).bind fun z12 =>
        (vc g 104 v2 (M_Bytes_addAll v2 z10 0 z12 g)).bind fun g13 =>
        some g13
      else
        k_Tree_printStart_63 v2 z2 g
  else
    (vc g 104 v2 (M_Bytes_add v2 60 g)).bind fun g14 =>
    (rL g14 107 z2 1).bind fun z15 =>
    (vc g14 104 v2 (M_Bytes_addPacked v2 z15 g14)).bind fun g16 =>
    (L_Tree_printStart_89 v2 z2 0 g16).bind <| fun g19 =>
    (vc g19 104 v2 (M_Bytes_add v2 62 g19)).bind fun g20 =>
    some g20
set_option maxRecDepth 20000 in
theorem d_Tree_printStart {L : Nat} {xs : Nat → Int32} {Q : Option Value → ab_H → Prop} {v0 : Nat} {v1 : Int32} {v2 : Nat} {g : g_S} {out : g_S} (e : M_Tree_printStart v0 v1 v2 g = some out) (c : Q none (hp out)) : mw (ab_ext L xs) J_Tree_printStart [.ref v0, .int v1, .ref v2] (hp g) Q := by
  unfold M_Tree_printStart at e
  refine wp_p (j := J_Tree_printStart) 1 (pc' := 1) (lv' := [(0, .ref v0), (1, .int v1), (2, .ref v2)]) (st' := [.ref v0]) rfl ?_
  refine x_gQ e rfl rfl fd_10_0 rfl (fun z1 e => ?_)
  refine wp_p (j := J_Tree_printStart) 1 (pc' := 5) (lv' := [(0, .ref v0), (1, .int v1), (2, .ref v2)]) (st' := [.int v1, .ref z1]) rfl ?_
  refine x_aQ e rfl rfl rfl (fun z2 e => ?_)
  refine wp_p (j := J_Tree_printStart) 2 (pc' := 8) (lv' := [(3, .ref z2), (0, .ref v0), (1, .int v1), (2, .ref v2)]) (st' := [.ref z2]) rfl ?_
  refine x_gI e rfl rfl fd_7_0 rfl (fun z3 e => ?_)
  refine wp_p (j := J_Tree_printStart) 1 (pc' := 13) (lv' := [(3, .ref z2), (0, .ref v0), (1, .int v1), (2, .ref v2)]) (st' := [.int 17, .int z3]) rfl ?_
  refine x_ne e rfl (fun e => ?_) (fun e => ?_)
  · refine wp_p (j := J_Tree_printStart) 1 (pc' := 17) (lv' := [(3, .ref z2), (0, .ref v0), (1, .int v1), (2, .ref v2)]) (st' := [.ref z2]) rfl ?_
    refine x_gI e rfl rfl fd_7_2 rfl (fun z4 e => ?_)
    refine wp_p (j := J_Tree_printStart) 1 (pc' := 21) (lv' := [(3, .ref z2), (0, .ref v0), (1, .int v1), (2, .ref v2)]) (st' := [.int (-1), .int z4]) rfl ?_
    refine x_eq e rfl (fun e => ?_) (fun e => ?_)
    · exact wp_lv (lv' := [(2, .ref v2), (3, .ref z2)]) rfl ⟨rfl, rfl, trivial⟩ (x_Tree_printStart_63 e c)
    · refine wp_p (j := J_Tree_printStart) 1 (pc' := 25) (lv' := [(3, .ref z2), (0, .ref v0), (1, .int v1), (2, .ref v2)]) (st' := [.ref v0]) rfl ?_
      refine x_gQ e rfl rfl fd_10_0 rfl (fun z5 e => ?_)
      refine wp_p (j := J_Tree_printStart) 1 (pc' := 29) (lv' := [(3, .ref z2), (0, .ref v0), (1, .int v1), (2, .ref v2)]) (st' := [.ref z2, .ref z5]) rfl ?_
      refine x_gI e rfl rfl fd_7_2 rfl (fun z6 e => ?_)
      refine x_aQ e rfl rfl rfl (fun z7 e => ?_)
      refine x_gI e rfl rfl fd_7_0 rfl (fun z8 e => ?_)
      refine wp_p (j := J_Tree_printStart) 1 (pc' := 38) (lv' := [(3, .ref z2), (0, .ref v0), (1, .int v1), (2, .ref v2)]) (st' := [.int 15, .int z8]) rfl ?_
      refine x_ne e rfl (fun e => ?_) (fun e => ?_)
      · refine wp_p (j := J_Tree_printStart) 2 (pc' := 43) (lv' := [(3, .ref z2), (0, .ref v0), (1, .int v1), (2, .ref v2)]) (st' := [.ref z2, .ref v2]) rfl ?_
        refine x_gQ e rfl rfl fd_7_11 rfl (fun z9 e => ?_)
        refine x_gQ e rfl rfl fd_4_1 rfl (fun z10 e => ?_)
        refine wp_p (j := J_Tree_printStart) 2 (pc' := 51) (lv' := [(3, .ref z2), (0, .ref v0), (1, .int v1), (2, .ref v2)]) (st' := [.ref z2, .int 0, .ref z10, .ref v2]) rfl ?_
        refine x_gQ e rfl rfl fd_7_11 rfl (fun z11 e => ?_)
        refine x_gI e rfl rfl fd_4_2 rfl (fun z12 e => ?_)
        refine x_cv0 (As := [.ref z10, .int 0, .int z12]) (rest := []) e rfl rfl rfl rfl rfl rfl (fun h => d_Bytes_addAll h ⟨rfl, rfl⟩) (fun g13 e => ?_)
        refine wp_p (j := J_Tree_printStart) 1 (pc' := 71) (lv' := [(3, .ref z2), (0, .ref v0), (1, .int v1), (2, .ref v2)]) (st' := []) rfl ?_
        have e := Option.some.inj e; subst e; exact wp_vret rfl rfl c
      · exact wp_lv (lv' := [(2, .ref v2), (3, .ref z2)]) rfl ⟨rfl, rfl, trivial⟩ (x_Tree_printStart_63 e c)
  · refine wp_p (j := J_Tree_printStart) 2 (pc' := 75) (lv' := [(3, .ref z2), (0, .ref v0), (1, .int v1), (2, .ref v2)]) (st' := [.int 60, .ref v2]) rfl ?_
    refine x_cv0 (As := [.int 60]) (rest := []) e rfl rfl rfl rfl rfl rfl (fun h => d_Bytes_add h ⟨rfl, rfl⟩) (fun g14 e => ?_)
    refine wp_p (j := J_Tree_printStart) 2 (pc' := 80) (lv' := [(3, .ref z2), (0, .ref v0), (1, .int v1), (2, .ref v2)]) (st' := [.ref z2, .ref v2]) rfl ?_
    refine x_gL e rfl rfl fd_7_1 rfl (fun z15 e => ?_)
    refine x_cv0 (As := [.long z15]) (rest := []) e rfl rfl rfl rfl rfl rfl (fun h => d_Bytes_addPacked h ⟨rfl, rfl⟩) (fun g16 e => ?_)
    refine wp_p (j := J_Tree_printStart) 2 (pc' := 89) (lv' := [(4, .int 0), (3, .ref z2), (0, .ref v0), (1, .int v1), (2, .ref v2)]) (st' := []) rfl ?_
    obtain ⟨g19, h18, e⟩ := bd e
    refine wp_lv (lv' := [(2, .ref v2), (3, .ref z2), (4, .int 0)]) rfl ⟨rfl, rfl, rfl, trivial⟩ ?_
    refine l_Tree_printStart_89 h18 ?_
    show wp (ab_ext L xs) J_Tree_printStart 144 [(2, .ref v2)] [] (hp g19) Q
    refine wp_p (j := J_Tree_printStart) 2 (pc' := 147) (lv' := [(2, .ref v2)]) (st' := [.int 62, .ref v2]) rfl ?_
    refine x_cv0 (As := [.int 62]) (rest := []) e rfl rfl rfl rfl rfl rfl (fun h => d_Bytes_add h ⟨rfl, rfl⟩) (fun g20 e => ?_)
    have e := Option.some.inj e; subst e; exact wp_vret rfl rfl c
noncomputable def M_Tree_printEnd (v0 : Nat) (v1 : Nat) (g : g_S) : Option g_S :=
  (rI g 107 v0 0).bind fun z1 =>
  if z1 = 17 then
    some g
  else
    (vc g 107 v0 (M_Node_isEmptyTag v0 g)).bind fun z2 =>
    if z2 = 0 then
      (vc g 104 v1 (M_Bytes_addText v1 1000037 g)).bind fun g3 =>
      (rL g3 107 v0 1).bind fun z4 =>
      (vc g3 104 v1 (M_Bytes_addPacked v1 z4 g3)).bind fun g5 =>
      (vc g5 104 v1 (M_Bytes_add v1 62 g5)).bind fun g6 =>
      some g6
    else
      some g
set_option maxRecDepth 20000 in
theorem d_Tree_printEnd {L : Nat} {xs : Nat → Int32} {Q : Option Value → ab_H → Prop} {v0 : Nat} {v1 : Nat} {g : g_S} {out : g_S} (e : M_Tree_printEnd v0 v1 g = some out) (c : Q none (hp out)) : mw (ab_ext L xs) J_Tree_printEnd [.ref v0, .ref v1] (hp g) Q := by
  unfold M_Tree_printEnd at e
  refine wp_p (j := J_Tree_printEnd) 1 (pc' := 1) (lv' := [(0, .ref v0), (1, .ref v1)]) (st' := [.ref v0]) rfl ?_
  refine x_gI e rfl rfl fd_7_0 rfl (fun z1 e => ?_)
  refine wp_p (j := J_Tree_printEnd) 1 (pc' := 6) (lv' := [(0, .ref v0), (1, .ref v1)]) (st' := [.int 17, .int z1]) rfl ?_
  refine x_eq e rfl (fun e => ?_) (fun e => ?_)
  · have e := Option.some.inj e; subst e; exact wp_vret rfl rfl c
  · refine wp_p (j := J_Tree_printEnd) 1 (pc' := 10) (lv' := [(0, .ref v0), (1, .ref v1)]) (st' := [.ref v0]) rfl ?_
    refine x_cv1 (As := []) (rest := []) Value.int e rfl rfl rfl rfl rfl rfl (fun h => d_Node_isEmptyTag h ⟨rfl, rfl⟩) (fun z2 e => ?_)
    refine z_ne e rfl (fun e => ?_) (fun e => ?_)
    · refine wp_p (j := J_Tree_printEnd) 1 (pc' := 17) (lv' := [(0, .ref v0), (1, .ref v1)]) (st' := [.ref v1]) rfl ?_
      refine x_ls rfl rfl ?_
      refine x_cv0 (As := [.ref 1000037]) (rest := []) e rfl rfl rfl rfl rfl rfl (fun h => d_Bytes_addText h ⟨rfl, rfl⟩) (fun g3 e => ?_)
      refine wp_p (j := J_Tree_printEnd) 2 (pc' := 24) (lv' := [(0, .ref v0), (1, .ref v1)]) (st' := [.ref v0, .ref v1]) rfl ?_
      refine x_gL e rfl rfl fd_7_1 rfl (fun z4 e => ?_)
      refine x_cv0 (As := [.long z4]) (rest := []) e rfl rfl rfl rfl rfl rfl (fun h => d_Bytes_addPacked h ⟨rfl, rfl⟩) (fun g5 e => ?_)
      refine wp_p (j := J_Tree_printEnd) 2 (pc' := 33) (lv' := [(0, .ref v0), (1, .ref v1)]) (st' := [.int 62, .ref v1]) rfl ?_
      refine x_cv0 (As := [.int 62]) (rest := []) e rfl rfl rfl rfl rfl rfl (fun h => d_Bytes_add h ⟨rfl, rfl⟩) (fun g6 e => ?_)
      have e := Option.some.inj e; subst e; exact wp_vret rfl rfl c
    · have e := Option.some.inj e; subst e; exact wp_vret rfl rfl c
def cL_Tree_print_52 (L : Nat) (xs : Nat → Int32) (Q : Option Value → ab_H → Prop) (v0 : Nat) (v1 : Int32) (v2 : Nat) (v3 : Int32) (v4 : Int32) (out : (Int32 × g_S) ⊕ (g_S)) : Prop := match out with
  | .inl s => wp (ab_ext L xs) J_Tree_print 52 [(0, .ref v0), (1, .int v1), (2, .ref v2), (3, .int v3), (4, .int v4), (5, .int s.1)] [] (hp s.2) Q
  | .inr s => wp (ab_ext L xs) J_Tree_print 111 [(0, .ref v0), (1, .int v1), (2, .ref v2), (3, .int v3), (4, .int v4)] [] (hp s) Q
noncomputable def b_Tree_print_52 (v0 : Nat) (v1 : Int32) (v2 : Nat) (v3 : Int32) (v4 : Int32) (v5 : Int32) (g : g_S) : Option ((Int32 × g_S) ⊕ (g_S)) :=
  if v5 = (-1) then
    some (.inr g)
  else
    (rQ g 110 v0 0).bind fun z1 =>
    (aQ g 5 z1 v5).bind fun z2 =>
    (rI g 107 z2 9).bind fun z3 =>
    if z3 = (v4 + 1) then
      (rQ g 110 v0 0).bind fun z4 =>
      (aQ g 5 z4 v5).bind fun z5 =>
      (M_Tree_printEnd z5 v2 g).bind fun g6 =>
      if v5 = v1 then
        some (.inl ((-1), g6))
      else
        (rQ g6 110 v0 0).bind fun z7 =>
        (aQ g6 5 z7 v5).bind fun z8 =>
        (rI g6 107 z8 2).bind fun z9 =>
        some (.inl (z9, g6))
    else
      some (.inr g)
set_option maxRecDepth 20000 in
theorem y_Tree_print_52 {L : Nat} {xs : Nat → Int32} {Q : Option Value → ab_H → Prop} {v0 : Nat} {v1 : Int32} {v2 : Nat} {v3 : Int32} {v4 : Int32} {v5 : Int32} {g : g_S} {out : (Int32 × g_S) ⊕ (g_S)} (e : b_Tree_print_52 v0 v1 v2 v3 v4 v5 g = some out) (c : cL_Tree_print_52 L xs Q v0 v1 v2 v3 v4 out) : wp (ab_ext L xs) J_Tree_print 52 [(0, .ref v0), (1, .int v1), (2, .ref v2), (3, .int v3), (4, .int v4), (5, .int v5)] [] (hp g) Q := by
  unfold b_Tree_print_52 at e
  refine wp_p (j := J_Tree_print) 2 (pc' := 55) (lv' := [(0, .ref v0), (1, .int v1), (2, .ref v2), (3, .int v3), (4, .int v4), (5, .int v5)]) (st' := [.int (-1), .int v5]) rfl ?_
  refine x_eq e rfl (fun e => ?_) (fun e => ?_)
  · have e := Option.some.inj e; subst e; exact wp_lv (lv' := [(0, .ref v0), (1, .int v1), (2, .ref v2), (3, .int v3), (4, .int v4)]) rfl ⟨rfl, rfl, rfl, rfl, rfl, trivial⟩ c
  · refine wp_p (j := J_Tree_print) 1 (pc' := 59) (lv' := [(0, .ref v0), (1, .int v1), (2, .ref v2), (3, .int v3), (4, .int v4), (5, .int v5)]) (st' := [.ref v0]) rfl ?_
    refine x_gQ e rfl rfl fd_10_0 rfl (fun z1 e => ?_)
    refine wp_p (j := J_Tree_print) 1 (pc' := 64) (lv' := [(0, .ref v0), (1, .int v1), (2, .ref v2), (3, .int v3), (4, .int v4), (5, .int v5)]) (st' := [.int v5, .ref z1]) rfl ?_
    refine x_aQ e rfl rfl rfl (fun z2 e => ?_)
    refine x_gI e rfl rfl fd_7_9 rfl (fun z3 e => ?_)
    refine wp_p (j := J_Tree_print) 3 (pc' := 72) (lv' := [(0, .ref v0), (1, .int v1), (2, .ref v2), (3, .int v3), (4, .int v4), (5, .int v5)]) (st' := [.int (v4 + 1), .int z3]) rfl ?_
    refine x_ne e rfl (fun e => ?_) (fun e => ?_)
    · refine wp_p (j := J_Tree_print) 1 (pc' := 76) (lv' := [(0, .ref v0), (1, .int v1), (2, .ref v2), (3, .int v3), (4, .int v4), (5, .int v5)]) (st' := [.ref v0]) rfl ?_
      refine x_gQ e rfl rfl fd_10_0 rfl (fun z4 e => ?_)
      refine wp_p (j := J_Tree_print) 1 (pc' := 81) (lv' := [(0, .ref v0), (1, .int v1), (2, .ref v2), (3, .int v3), (4, .int v4), (5, .int v5)]) (st' := [.int v5, .ref z4]) rfl ?_
      refine x_aQ e rfl rfl rfl (fun z5 e => ?_)
      refine wp_p (j := J_Tree_print) 1 (pc' := 83) (lv' := [(0, .ref v0), (1, .int v1), (2, .ref v2), (3, .int v3), (4, .int v4), (5, .int v5)]) (st' := [.ref v2, .ref z5]) rfl ?_
      refine x_cs0 (As := [.ref z5, .ref v2]) (rest := []) e rfl rfl rfl rfl rfl (fun h => d_Tree_printEnd h ⟨rfl, rfl⟩) (fun g6 e => ?_)
      refine wp_p (j := J_Tree_print) 2 (pc' := 89) (lv' := [(0, .ref v0), (1, .int v1), (2, .ref v2), (3, .int v3), (4, .int v4), (5, .int v5)]) (st' := [.int v1, .int v5]) rfl ?_
      refine x_ne e rfl (fun e => ?_) (fun e => ?_)
      · refine wp_p (j := J_Tree_print) 4 (pc' := 52) (lv' := [(5, .int (-1)), (0, .ref v0), (1, .int v1), (2, .ref v2), (3, .int v3), (4, .int v4)]) (st' := []) rfl ?_
        have e := Option.some.inj e; subst e; exact wp_lv (lv' := [(0, .ref v0), (1, .int v1), (2, .ref v2), (3, .int v3), (4, .int v4), (5, .int (-1))]) rfl ⟨rfl, rfl, rfl, rfl, rfl, rfl, trivial⟩ c
      · refine wp_p (j := J_Tree_print) 1 (pc' := 97) (lv' := [(0, .ref v0), (1, .int v1), (2, .ref v2), (3, .int v3), (4, .int v4), (5, .int v5)]) (st' := [.ref v0]) rfl ?_
        refine x_gQ e rfl rfl fd_10_0 rfl (fun z7 e => ?_)
        refine wp_p (j := J_Tree_print) 1 (pc' := 102) (lv' := [(0, .ref v0), (1, .int v1), (2, .ref v2), (3, .int v3), (4, .int v4), (5, .int v5)]) (st' := [.int v5, .ref z7]) rfl ?_
        refine x_aQ e rfl rfl rfl (fun z8 e => ?_)
        refine x_gI e rfl rfl fd_7_2 rfl (fun z9 e => ?_)
        refine wp_p (j := J_Tree_print) 2 (pc' := 52) (lv' := [(5, .int z9), (0, .ref v0), (1, .int v1), (2, .ref v2), (3, .int v3), (4, .int v4)]) (st' := []) rfl ?_
        have e := Option.some.inj e; subst e; exact wp_lv (lv' := [(0, .ref v0), (1, .int v1), (2, .ref v2), (3, .int v3), (4, .int v4), (5, .int z9)]) rfl ⟨rfl, rfl, rfl, rfl, rfl, rfl, trivial⟩ c
    · have e := Option.some.inj e; subst e; exact wp_lv (lv' := [(0, .ref v0), (1, .int v1), (2, .ref v2), (3, .int v3), (4, .int v4)]) rfl ⟨rfl, rfl, rfl, rfl, rfl, trivial⟩ c
noncomputable def L_Tree_print_52 (v0 : Nat) (v1 : Int32) (v2 : Nat) (v3 : Int32) (v4 : Int32) (v5 : Int32) (g : g_S) : Option (g_S) := it (fun s : Int32 × g_S => b_Tree_print_52 v0 v1 v2 v3 v4 s.1 s.2) (v5, g)
theorem l_Tree_print_52 {L : Nat} {xs : Nat → Int32} {Q : Option Value → ab_H → Prop} {v0 : Nat} {v1 : Int32} {v2 : Nat} {v3 : Int32} {v4 : Int32} {v5 : Int32} {g : g_S} {r : g_S} (e : L_Tree_print_52 v0 v1 v2 v3 v4 v5 g = some r) (c : cL_Tree_print_52 L xs Q v0 v1 v2 v3 v4 (.inr r)) : wp (ab_ext L xs) J_Tree_print 52 [(0, .ref v0), (1, .int v1), (2, .ref v2), (3, .int v3), (4, .int v4), (5, .int v5)] [] (hp g) Q :=
  it_wp (P := fun s : Int32 × g_S => wp (ab_ext L xs) J_Tree_print 52 [(0, .ref v0), (1, .int v1), (2, .ref v2), (3, .int v3), (4, .int v4), (5, .int s.1)] [] (hp s.2) Q) (E := fun r => cL_Tree_print_52 L xs Q v0 v1 v2 v3 v4 (.inr r)) (fun s out e c => y_Tree_print_52 e (by cases out <;> exact c)) e c
theorem L_Tree_print_52_eq (v0 : Nat) (v1 : Int32) (v2 : Nat) (v3 : Int32) (v4 : Int32) (v5 : Int32) (g : g_S) : L_Tree_print_52 v0 v1 v2 v3 v4 v5 g = itc (b_Tree_print_52 v0 v1 v2 v3 v4 v5 g) (fun s => L_Tree_print_52 v0 v1 v2 v3 v4 s.1 s.2) := it_eq2 (fun s : Int32 × g_S => b_Tree_print_52 v0 v1 v2 v3 v4 s.1 s.2) (v5, g)
def cL_Tree_print_25 (L : Nat) (xs : Nat → Int32) (Q : Option Value → ab_H → Prop) (v0 : Nat) (v1 : Int32) (v2 : Nat) (v3 : Int32) (out : (Int32 × g_S) ⊕ (g_S)) : Prop := match out with
  | .inl s => wp (ab_ext L xs) J_Tree_print 25 [(0, .ref v0), (1, .int v1), (2, .ref v2), (3, .int v3), (4, .int s.1)] [] (hp s.2) Q
  | .inr s => wp (ab_ext L xs) J_Tree_print 117 [] [] (hp s) Q
noncomputable def b_Tree_print_25 (v0 : Nat) (v1 : Int32) (v2 : Nat) (v3 : Int32) (v4 : Int32) (g : g_S) : Option ((Int32 × g_S) ⊕ (g_S)) :=
  if v4 < v3 then
    (rQ g 110 v0 2).bind fun z1 =>
    (aI g 0 z1 v4).bind fun z2 =>
    (vc g 110 v0 (M_Tree_printStart v0 z2 v2 g)).bind fun g3 =>
    (rQ g3 110 v0 2).bind fun z4 =>
    (aI g3 0 z4 v4).bind fun z5 =>
    (L_Tree_print_52 v0 v1 v2 v3 v4 z5 g3).bind <| fun g8 =>
    some (.inl (v4 + 1, g8))
  else
    some (.inr g)
set_option maxRecDepth 20000 in
theorem y_Tree_print_25 {L : Nat} {xs : Nat → Int32} {Q : Option Value → ab_H → Prop} {v0 : Nat} {v1 : Int32} {v2 : Nat} {v3 : Int32} {v4 : Int32} {g : g_S} {out : (Int32 × g_S) ⊕ (g_S)} (e : b_Tree_print_25 v0 v1 v2 v3 v4 g = some out) (c : cL_Tree_print_25 L xs Q v0 v1 v2 v3 out) : wp (ab_ext L xs) J_Tree_print 25 [(0, .ref v0), (1, .int v1), (2, .ref v2), (3, .int v3), (4, .int v4)] [] (hp g) Q := by
  unfold b_Tree_print_25 at e
  refine wp_p (j := J_Tree_print) 2 (pc' := 28) (lv' := [(0, .ref v0), (1, .int v1), (2, .ref v2), (3, .int v3), (4, .int v4)]) (st' := [.int v3, .int v4]) rfl ?_
  refine x_ge e rfl (fun e => ?_) (fun e => ?_)
  · refine wp_p (j := J_Tree_print) 2 (pc' := 33) (lv' := [(0, .ref v0), (1, .int v1), (2, .ref v2), (3, .int v3), (4, .int v4)]) (st' := [.ref v0, .ref v0]) rfl ?_
    refine x_gQ e rfl rfl fd_10_2 rfl (fun z1 e => ?_)
    refine wp_p (j := J_Tree_print) 1 (pc' := 38) (lv' := [(0, .ref v0), (1, .int v1), (2, .ref v2), (3, .int v3), (4, .int v4)]) (st' := [.int v4, .ref z1, .ref v0]) rfl ?_
    refine x_aI e rfl rfl (fun z2 e => ?_)
    refine wp_p (j := J_Tree_print) 1 (pc' := 40) (lv' := [(0, .ref v0), (1, .int v1), (2, .ref v2), (3, .int v3), (4, .int v4)]) (st' := [.ref v2, .int z2, .ref v0]) rfl ?_
    refine x_cv0 (As := [.int z2, .ref v2]) (rest := []) e rfl rfl rfl rfl rfl rfl (fun h => d_Tree_printStart h ⟨rfl, rfl⟩) (fun g3 e => ?_)
    refine wp_p (j := J_Tree_print) 1 (pc' := 44) (lv' := [(0, .ref v0), (1, .int v1), (2, .ref v2), (3, .int v3), (4, .int v4)]) (st' := [.ref v0]) rfl ?_
    refine x_gQ e rfl rfl fd_10_2 rfl (fun z4 e => ?_)
    refine wp_p (j := J_Tree_print) 1 (pc' := 49) (lv' := [(0, .ref v0), (1, .int v1), (2, .ref v2), (3, .int v3), (4, .int v4)]) (st' := [.int v4, .ref z4]) rfl ?_
    refine x_aI e rfl rfl (fun z5 e => ?_)
    refine wp_p (j := J_Tree_print) 1 (pc' := 52) (lv' := [(5, .int z5), (0, .ref v0), (1, .int v1), (2, .ref v2), (3, .int v3), (4, .int v4)]) (st' := []) rfl ?_
    obtain ⟨g8, h7, e⟩ := bd e
    refine wp_lv (lv' := [(0, .ref v0), (1, .int v1), (2, .ref v2), (3, .int v3), (4, .int v4), (5, .int z5)]) rfl ⟨rfl, rfl, rfl, rfl, rfl, rfl, trivial⟩ ?_
    refine l_Tree_print_52 h7 ?_
    show wp (ab_ext L xs) J_Tree_print 111 [(0, .ref v0), (1, .int v1), (2, .ref v2), (3, .int v3), (4, .int v4)] [] (hp g8) Q
    refine wp_p (j := J_Tree_print) 2 (pc' := 25) (lv' := [(4, .int (v4 + 1)), (0, .ref v0), (1, .int v1), (2, .ref v2), (3, .int v3)]) (st' := []) rfl ?_
    have e := Option.some.inj e; subst e; exact wp_lv (lv' := [(0, .ref v0), (1, .int v1), (2, .ref v2), (3, .int v3), (4, .int (v4 + 1))]) rfl ⟨rfl, rfl, rfl, rfl, rfl, trivial⟩ c
  · have e := Option.some.inj e; subst e; exact wp_lv (lv' := []) rfl trivial c
noncomputable def L_Tree_print_25 (v0 : Nat) (v1 : Int32) (v2 : Nat) (v3 : Int32) (v4 : Int32) (g : g_S) : Option (g_S) := it (fun s : Int32 × g_S => b_Tree_print_25 v0 v1 v2 v3 s.1 s.2) (v4, g)
theorem l_Tree_print_25 {L : Nat} {xs : Nat → Int32} {Q : Option Value → ab_H → Prop} {v0 : Nat} {v1 : Int32} {v2 : Nat} {v3 : Int32} {v4 : Int32} {g : g_S} {r : g_S} (e : L_Tree_print_25 v0 v1 v2 v3 v4 g = some r) (c : cL_Tree_print_25 L xs Q v0 v1 v2 v3 (.inr r)) : wp (ab_ext L xs) J_Tree_print 25 [(0, .ref v0), (1, .int v1), (2, .ref v2), (3, .int v3), (4, .int v4)] [] (hp g) Q :=
  it_wp (P := fun s : Int32 × g_S => wp (ab_ext L xs) J_Tree_print 25 [(0, .ref v0), (1, .int v1), (2, .ref v2), (3, .int v3), (4, .int s.1)] [] (hp s.2) Q) (E := fun r => cL_Tree_print_25 L xs Q v0 v1 v2 v3 (.inr r)) (fun s out e c => y_Tree_print_25 e (by cases out <;> exact c)) e c
theorem L_Tree_print_25_eq (v0 : Nat) (v1 : Int32) (v2 : Nat) (v3 : Int32) (v4 : Int32) (g : g_S) : L_Tree_print_25 v0 v1 v2 v3 v4 g = itc (b_Tree_print_25 v0 v1 v2 v3 v4 g) (fun s => L_Tree_print_25 v0 v1 v2 v3 s.1 s.2) := it_eq2 (fun s : Int32 × g_S => b_Tree_print_25 v0 v1 v2 v3 s.1 s.2) (v4, g)
noncomputable def M_Tree_print (v0 : Nat) (v1 : Int32) (v2 : Nat) (g : g_S) : Option g_S :=
  (vc g 110 v0 (M_Tree_list v0 g)).bind fun g1 =>
  (rQ g1 110 v0 0).bind fun z2 =>
  (aQ g1 5 z2 v1).bind fun z3 =>
  (rI g1 107 z3 9).bind fun z4 =>
  (rQ g1 110 v0 0).bind fun z5 =>
  (aQ g1 5 z5 v1).bind fun z6 =>
  (rI g1 107 z6 8).bind fun z7 =>
  (L_Tree_print_25 v0 v1 v2 z4 z7 g1).bind <| fun g10 =>
  some g10
set_option maxRecDepth 20000 in
theorem d_Tree_print {L : Nat} {xs : Nat → Int32} {Q : Option Value → ab_H → Prop} {v0 : Nat} {v1 : Int32} {v2 : Nat} {g : g_S} {out : g_S} (e : M_Tree_print v0 v1 v2 g = some out) (c : Q none (hp out)) : mw (ab_ext L xs) J_Tree_print [.ref v0, .int v1, .ref v2] (hp g) Q := by
  unfold M_Tree_print at e
  refine wp_p (j := J_Tree_print) 1 (pc' := 1) (lv' := [(0, .ref v0), (1, .int v1), (2, .ref v2)]) (st' := [.ref v0]) rfl ?_
  refine x_cv0 (As := []) (rest := []) e rfl rfl rfl rfl rfl rfl (fun h => d_Tree_list h ⟨rfl, rfl⟩) (fun g1 e => ?_)
  refine wp_p (j := J_Tree_print) 1 (pc' := 5) (lv' := [(0, .ref v0), (1, .int v1), (2, .ref v2)]) (st' := [.ref v0]) rfl ?_
  refine x_gQ e rfl rfl fd_10_0 rfl (fun z2 e => ?_)
  refine wp_p (j := J_Tree_print) 1 (pc' := 9) (lv' := [(0, .ref v0), (1, .int v1), (2, .ref v2)]) (st' := [.int v1, .ref z2]) rfl ?_
  refine x_aQ e rfl rfl rfl (fun z3 e => ?_)
  refine x_gI e rfl rfl fd_7_9 rfl (fun z4 e => ?_)
  refine wp_p (j := J_Tree_print) 2 (pc' := 15) (lv' := [(3, .int z4), (0, .ref v0), (1, .int v1), (2, .ref v2)]) (st' := [.ref v0]) rfl ?_
  refine x_gQ e rfl rfl fd_10_0 rfl (fun z5 e => ?_)
  refine wp_p (j := J_Tree_print) 1 (pc' := 19) (lv' := [(3, .int z4), (0, .ref v0), (1, .int v1), (2, .ref v2)]) (st' := [.int v1, .ref z5]) rfl ?_
  refine x_aQ e rfl rfl rfl (fun z6 e => ?_)
  refine x_gI e rfl rfl fd_7_8 rfl (fun z7 e => ?_)
  refine wp_p (j := J_Tree_print) 1 (pc' := 25) (lv' := [(4, .int z7), (3, .int z4), (0, .ref v0), (1, .int v1), (2, .ref v2)]) (st' := []) rfl ?_
  obtain ⟨g10, h9, e⟩ := bd e
  refine wp_lv (lv' := [(0, .ref v0), (1, .int v1), (2, .ref v2), (3, .int z4), (4, .int z7)]) rfl ⟨rfl, rfl, rfl, rfl, rfl, trivial⟩ ?_
  refine l_Tree_print_25 h9 ?_
  show wp (ab_ext L xs) J_Tree_print 117 [] [] (hp g10) Q
  have e := Option.some.inj e; subst e; exact wp_vret rfl rfl c
noncomputable def M_H_serialise (v0 : Nat) (v1 : Int32) (g : g_S) : Option (Int32 × g_S) :=
  (vc g 111 v0 (M_H_isNode v0 v1 g)).bind fun z1 =>
  if z1 = 0 then
    some ((-1), g)
  else
    (rQ g 111 v0 1).bind fun z2 =>
    (vc g 104 z2 (M_Bytes_clear z2 g)).bind fun g3 =>
    (rQ g3 111 v0 2).bind fun z4 =>
    (rQ g3 111 v0 1).bind fun z5 =>
    (vc g3 110 z4 (M_Tree_print z4 v1 z5 g3)).bind fun g6 =>
    (rQ g6 111 v0 1).bind fun z7 =>
    (rI g6 104 z7 2).bind fun z8 =>
    some (z8, g6)
set_option maxRecDepth 20000 in
theorem d_H_serialise {L : Nat} {xs : Nat → Int32} {Q : Option Value → ab_H → Prop} {v0 : Nat} {v1 : Int32} {g : g_S} {out : Int32 × g_S} (e : M_H_serialise v0 v1 g = some out) (c : Q (some (.int out.1)) (hp out.2)) : mw (ab_ext L xs) J_H_serialise [.ref v0, .int v1] (hp g) Q := by
  unfold M_H_serialise at e
  refine wp_p (j := J_H_serialise) 2 (pc' := 2) (lv' := [(0, .ref v0), (1, .int v1)]) (st' := [.int v1, .ref v0]) rfl ?_
  refine x_cv1 (As := [.int v1]) (rest := []) Value.int e rfl rfl rfl rfl rfl rfl (fun h => d_H_isNode h ⟨rfl, rfl⟩) (fun z1 e => ?_)
  refine z_ne e rfl (fun e => ?_) (fun e => ?_)
  · refine wp_p (j := J_H_serialise) 1 (pc' := 9) (lv' := [(0, .ref v0), (1, .int v1)]) (st' := [.int (-1)]) rfl ?_
    have e := Option.some.inj e; subst e; exact wp_iret (ty := .int) rfl rfl rfl c
  · refine wp_p (j := J_H_serialise) 1 (pc' := 11) (lv' := [(0, .ref v0), (1, .int v1)]) (st' := [.ref v0]) rfl ?_
    refine x_gQ e rfl rfl fd_11_1 rfl (fun z2 e => ?_)
    refine x_cv0 (As := []) (rest := []) e rfl rfl rfl rfl rfl rfl (fun h => d_Bytes_clear h ⟨rfl, rfl⟩) (fun g3 e => ?_)
    refine wp_p (j := J_H_serialise) 1 (pc' := 18) (lv' := [(0, .ref v0), (1, .int v1)]) (st' := [.ref v0]) rfl ?_
    refine x_gQ e rfl rfl fd_11_2 rfl (fun z4 e => ?_)
    refine wp_p (j := J_H_serialise) 2 (pc' := 23) (lv' := [(0, .ref v0), (1, .int v1)]) (st' := [.ref v0, .int v1, .ref z4]) rfl ?_
    refine x_gQ e rfl rfl fd_11_1 rfl (fun z5 e => ?_)
    refine x_cv0 (As := [.int v1, .ref z5]) (rest := []) e rfl rfl rfl rfl rfl rfl (fun h => d_Tree_print h ⟨rfl, rfl⟩) (fun g6 e => ?_)
    refine wp_p (j := J_H_serialise) 1 (pc' := 30) (lv' := [(0, .ref v0), (1, .int v1)]) (st' := [.ref v0]) rfl ?_
    refine x_gQ e rfl rfl fd_11_1 rfl (fun z7 e => ?_)
    refine x_gI e rfl rfl fd_4_2 rfl (fun z8 e => ?_)
    have e := Option.some.inj e; subst e; exact wp_iret (ty := .int) rfl rfl rfl c
noncomputable def M_H_fault (v0 : Nat) (v1 : Int32) (v2 : Int32) (g : g_S) : Option Int32 :=
  if v1 < 0 then
    some (-1)
  else
    (rQ g 111 v0 4).bind fun z1 =>
    (rI g 108 z1 3).bind fun z2 =>
    if v1 < (mn z2 40) then
      if v2 = 0 then
        (rQ g 111 v0 4).bind fun z3 =>
        (rQ g 108 z3 1).bind fun z4 =>
        (aI g 0 z4 v1).bind fun z5 =>
        some z5
      else
        if v2 = 1 then
          (rQ g 111 v0 4).bind fun z6 =>
          (rQ g 108 z6 2).bind fun z7 =>
          (aI g 0 z7 v1).bind fun z8 =>
          some z8
        else
          some (-1)
    else
      some (-1)
set_option maxRecDepth 20000 in
theorem d_H_fault {L : Nat} {xs : Nat → Int32} {Q : Option Value → ab_H → Prop} {v0 : Nat} {v1 : Int32} {v2 : Int32} {g : g_S} {out : Int32} (e : M_H_fault v0 v1 v2 g = some out) (c : Q (some (.int out)) (hp g)) : mw (ab_ext L xs) J_H_fault [.ref v0, .int v1, .int v2] (hp g) Q := by
  unfold M_H_fault at e
  refine wp_p (j := J_H_fault) 1 (pc' := 1) (lv' := [(0, .ref v0), (1, .int v1), (2, .int v2)]) (st' := [.int v1]) rfl ?_
  refine z_lt e rfl (fun e => ?_) (fun e => ?_)
  · refine wp_p (j := J_H_fault) 1 (pc' := 21) (lv' := [(0, .ref v0), (1, .int v1), (2, .int v2)]) (st' := [.int (-1)]) rfl ?_
    have e := Option.some.inj e; subst e; exact wp_iret (ty := .int) rfl rfl rfl c
  · refine wp_p (j := J_H_fault) 2 (pc' := 6) (lv' := [(0, .ref v0), (1, .int v1), (2, .int v2)]) (st' := [.ref v0, .int v1]) rfl ?_
    refine x_gQ e rfl rfl fd_11_4 rfl (fun z1 e => ?_)
    refine x_gI e rfl rfl fd_8_3 rfl (fun z2 e => ?_)
    refine wp_p (j := J_H_fault) 1 (pc' := 14) (lv' := [(0, .ref v0), (1, .int v1), (2, .int v2)]) (st' := [.int 40, .int z2, .int v1]) rfl ?_
    refine x_mn rfl rfl ?_
    refine x_lt e rfl (fun e => ?_) (fun e => ?_)
    · refine wp_p (j := J_H_fault) 1 (pc' := 23) (lv' := [(0, .ref v0), (1, .int v1), (2, .int v2)]) (st' := [.int v2]) rfl ?_
      refine z_ne e rfl (fun e => ?_) (fun e => ?_)
      · refine wp_p (j := J_H_fault) 1 (pc' := 27) (lv' := [(0, .ref v0), (1, .int v1), (2, .int v2)]) (st' := [.ref v0]) rfl ?_
        refine x_gQ e rfl rfl fd_11_4 rfl (fun z3 e => ?_)
        refine x_gQ e rfl rfl fd_8_1 rfl (fun z4 e => ?_)
        refine wp_p (j := J_H_fault) 1 (pc' := 34) (lv' := [(0, .ref v0), (1, .int v1), (2, .int v2)]) (st' := [.int v1, .ref z4]) rfl ?_
        refine x_aI e rfl rfl (fun z5 e => ?_)
        have e := Option.some.inj e; subst e; exact wp_iret (ty := .int) rfl rfl rfl c
      · refine wp_p (j := J_H_fault) 2 (pc' := 38) (lv' := [(0, .ref v0), (1, .int v1), (2, .int v2)]) (st' := [.int 1, .int v2]) rfl ?_
        refine x_ne e rfl (fun e => ?_) (fun e => ?_)
        · refine wp_p (j := J_H_fault) 1 (pc' := 42) (lv' := [(0, .ref v0), (1, .int v1), (2, .int v2)]) (st' := [.ref v0]) rfl ?_
          refine x_gQ e rfl rfl fd_11_4 rfl (fun z6 e => ?_)
          refine x_gQ e rfl rfl fd_8_2 rfl (fun z7 e => ?_)
          refine wp_p (j := J_H_fault) 1 (pc' := 49) (lv' := [(0, .ref v0), (1, .int v1), (2, .int v2)]) (st' := [.int v1, .ref z7]) rfl ?_
          refine x_aI e rfl rfl (fun z8 e => ?_)
          refine wp_p (j := J_H_fault) 1 (pc' := 54) (lv' := [(0, .ref v0), (1, .int v1), (2, .int v2)]) (st' := [.int z8]) rfl ?_
          have e := Option.some.inj e; subst e; exact wp_iret (ty := .int) rfl rfl rfl c
        · refine wp_p (j := J_H_fault) 1 (pc' := 54) (lv' := [(0, .ref v0), (1, .int v1), (2, .int v2)]) (st' := [.int (-1)]) rfl ?_
          have e := Option.some.inj e; subst e; exact wp_iret (ty := .int) rfl rfl rfl c
    · refine wp_p (j := J_H_fault) 1 (pc' := 21) (lv' := [(0, .ref v0), (1, .int v1), (2, .int v2)]) (st' := [.int (-1)]) rfl ?_
      have e := Option.some.inj e; subst e; exact wp_iret (ty := .int) rfl rfl rfl c
def cL_Sheet_readPart_100 (L : Nat) (xs : Nat → Int32) (Q : Option Value → ab_H → Prop) (v0 : Nat) (v1 : Nat) (v2 : Int32) (v3 : Int32) (v4 : Int32) (v5 : Int32) (out : (Int32 × g_S) ⊕ ((Int32 × g_S) ⊕ (Int32 × g_S))) : Prop := match out with
  | .inl s => wp (ab_ext L xs) J_Sheet_readPart 100 [(0, .ref v0), (1, .ref v1), (2, .int v2), (3, .int v3), (4, .int v4), (5, .int v5), (6, .int s.1)] [] (hp s.2) Q
  | .inr (.inl s) => wp (ab_ext L xs) J_Sheet_readPart 155 [(7, .int s.1)] [] (hp s.2) Q
  | .inr (.inr s) => wp (ab_ext L xs) J_Sheet_readPart 257 [(2, .int v2), (6, .int s.1)] [] (hp s.2) Q
noncomputable def k_Sheet_readPart_237 (v0 : Nat) (v1 : Nat) (v2 : Int32) (v3 : Int32) (v4 : Int32) (v5 : Int32) (v7 : Int32) (w0 : Int32) (w1 : Int32) (w2 : Int32) (w3 : Nat) (g : g_S) : Option ((Int32 × g_S) ⊕ ((Int32 × g_S) ⊕ (Int32 × g_S))) :=
  (sI g w3 w2 (w1 + w0)).bind fun g1 =>
  (rQ g1 109 v0 5).bind fun z2 =>
  (aI g1 0 z2 v5).bind fun z3 =>
  (sI g1 z2 v5 (z3 + 1)).bind fun g4 =>
  some (.inl (v7, g4))
set_option maxRecDepth 20000 in
theorem x_Sheet_readPart_237 {L : Nat} {xs : Nat → Int32} {Q : Option Value → ab_H → Prop} {v0 : Nat} {v1 : Nat} {v2 : Int32} {v3 : Int32} {v4 : Int32} {v5 : Int32} {v7 : Int32} {w0 : Int32} {w1 : Int32} {w2 : Int32} {w3 : Nat} {g : g_S} {out : (Int32 × g_S) ⊕ ((Int32 × g_S) ⊕ (Int32 × g_S))} (e : k_Sheet_readPart_237 v0 v1 v2 v3 v4 v5 v7 w0 w1 w2 w3 g = some out) (c : cL_Sheet_readPart_100 L xs Q v0 v1 v2 v3 v4 v5 out) : wp (ab_ext L xs) J_Sheet_readPart 237 [(0, .ref v0), (1, .ref v1), (2, .int v2), (3, .int v3), (4, .int v4), (5, .int v5), (7, .int v7)] [.int w0, .int w1, .int w2, .ref w3] (hp g) Q := by
  unfold k_Sheet_readPart_237 at e
  refine wp_p (j := J_Sheet_readPart) 1 (pc' := 238) (lv' := [(0, .ref v0), (1, .ref v1), (2, .int v2), (3, .int v3), (4, .int v4), (5, .int v5), (7, .int v7)]) (st' := [.int (w1 + w0), .int w2, .ref w3]) rfl ?_
  refine x_sI e rfl rfl (fun g1 e => ?_)
  refine wp_p (j := J_Sheet_readPart) 1 (pc' := 240) (lv' := [(0, .ref v0), (1, .ref v1), (2, .int v2), (3, .int v3), (4, .int v4), (5, .int v5), (7, .int v7)]) (st' := [.ref v0]) rfl ?_
  refine x_gQ e rfl rfl fd_9_5 rfl (fun z2 e => ?_)
  refine wp_p (j := J_Sheet_readPart) 2 (pc' := 246) (lv' := [(0, .ref v0), (1, .ref v1), (2, .int v2), (3, .int v3), (4, .int v4), (5, .int v5), (7, .int v7)]) (st' := [.int v5, .ref z2, .int v5, .ref z2]) rfl ?_
  refine x_aI e rfl rfl (fun z3 e => ?_)
  refine wp_p (j := J_Sheet_readPart) 2 (pc' := 249) (lv' := [(0, .ref v0), (1, .ref v1), (2, .int v2), (3, .int v3), (4, .int v4), (5, .int v5), (7, .int v7)]) (st' := [.int (z3 + 1), .int v5, .ref z2]) rfl ?_
  refine x_sI e rfl rfl (fun g4 e => ?_)
  refine wp_p (j := J_Sheet_readPart) 3 (pc' := 100) (lv' := [(6, .int v7), (0, .ref v0), (1, .ref v1), (2, .int v2), (3, .int v3), (4, .int v4), (5, .int v5), (7, .int v7)]) (st' := []) rfl ?_
  have e := Option.some.inj e; subst e; exact wp_lv (lv' := [(0, .ref v0), (1, .ref v1), (2, .int v2), (3, .int v3), (4, .int v4), (5, .int v5), (6, .int v7)]) rfl ⟨rfl, rfl, rfl, rfl, rfl, rfl, rfl, trivial⟩ c
noncomputable def k_Sheet_readPart_194 (v0 : Nat) (v1 : Nat) (v2 : Int32) (v3 : Int32) (v4 : Int32) (v5 : Int32) (v6 : Int32) (v7 : Int32) (v8 : Int32) (w0 : Int32) (w1 : Int32) (w2 : Nat) (g : g_S) : Option ((Int32 × g_S) ⊕ ((Int32 × g_S) ⊕ (Int32 × g_S))) :=
  (sZ g w2 w1 w0).bind fun g1 =>
  (rQ g1 109 v0 6).bind fun z2 =>
  (M_Bytes_pack v1 (v6 + 1) v7 g1).bind fun z3 =>
  (sL g1 z2 v8 z3).bind fun g4 =>
  (rQ g4 109 v0 2).bind fun z5 =>
  (aI g4 0 z5 v4).bind fun z6 =>
  (rQ g4 109 v0 7).bind fun z7 =>
  (aI g4 2 z7 v8).bind fun z8 =>
  if z8 = 0 then
    k_Sheet_readPart_237 v0 v1 v2 v3 v4 v5 v7 10 z6 v4 z5 g4
  else
    k_Sheet_readPart_237 v0 v1 v2 v3 v4 v5 v7 100 z6 v4 z5 g4
set_option maxRecDepth 20000 in
theorem x_Sheet_readPart_194 {L : Nat} {xs : Nat → Int32} {Q : Option Value → ab_H → Prop} {v0 : Nat} {v1 : Nat} {v2 : Int32} {v3 : Int32} {v4 : Int32} {v5 : Int32} {v6 : Int32} {v7 : Int32} {v8 : Int32} {w0 : Int32} {w1 : Int32} {w2 : Nat} {g : g_S} {out : (Int32 × g_S) ⊕ ((Int32 × g_S) ⊕ (Int32 × g_S))} (e : k_Sheet_readPart_194 v0 v1 v2 v3 v4 v5 v6 v7 v8 w0 w1 w2 g = some out) (c : cL_Sheet_readPart_100 L xs Q v0 v1 v2 v3 v4 v5 out) : wp (ab_ext L xs) J_Sheet_readPart 194 [(0, .ref v0), (1, .ref v1), (2, .int v2), (3, .int v3), (4, .int v4), (5, .int v5), (6, .int v6), (7, .int v7), (8, .int v8)] [.int w0, .int w1, .ref w2] (hp g) Q := by
  unfold k_Sheet_readPart_194 at e
  refine x_sZ e rfl rfl (fun g1 e => ?_)
  refine wp_p (j := J_Sheet_readPart) 1 (pc' := 196) (lv' := [(0, .ref v0), (1, .ref v1), (2, .int v2), (3, .int v3), (4, .int v4), (5, .int v5), (6, .int v6), (7, .int v7), (8, .int v8)]) (st' := [.ref v0]) rfl ?_
  refine x_gQ e rfl rfl fd_9_6 rfl (fun z2 e => ?_)
  refine wp_p (j := J_Sheet_readPart) 6 (pc' := 208) (lv' := [(0, .ref v0), (1, .ref v1), (2, .int v2), (3, .int v3), (4, .int v4), (5, .int v5), (6, .int v6), (7, .int v7), (8, .int v8)]) (st' := [.int v7, .int (v6 + 1), .ref v1, .int v8, .ref z2]) rfl ?_
  refine x_cs1 (As := [.ref v1, .int (v6 + 1), .int v7]) (rest := [.int v8, .ref z2]) Value.long e rfl rfl rfl rfl rfl (fun h => d_Bytes_pack h ⟨rfl, rfl⟩) (fun z3 e => ?_)
  refine x_sL e rfl rfl (fun g4 e => ?_)
  refine wp_p (j := J_Sheet_readPart) 1 (pc' := 213) (lv' := [(0, .ref v0), (1, .ref v1), (2, .int v2), (3, .int v3), (4, .int v4), (5, .int v5), (6, .int v6), (7, .int v7), (8, .int v8)]) (st' := [.ref v0]) rfl ?_
  refine x_gQ e rfl rfl fd_9_2 rfl (fun z5 e => ?_)
  refine wp_p (j := J_Sheet_readPart) 2 (pc' := 219) (lv' := [(0, .ref v0), (1, .ref v1), (2, .int v2), (3, .int v3), (4, .int v4), (5, .int v5), (6, .int v6), (7, .int v7), (8, .int v8)]) (st' := [.int v4, .ref z5, .int v4, .ref z5]) rfl ?_
  refine x_aI e rfl rfl (fun z6 e => ?_)
  refine wp_p (j := J_Sheet_readPart) 1 (pc' := 221) (lv' := [(0, .ref v0), (1, .ref v1), (2, .int v2), (3, .int v3), (4, .int v4), (5, .int v5), (6, .int v6), (7, .int v7), (8, .int v8)]) (st' := [.ref v0, .int z6, .int v4, .ref z5]) rfl ?_
  refine x_gQ e rfl rfl fd_9_7 rfl (fun z7 e => ?_)
  refine wp_p (j := J_Sheet_readPart) 1 (pc' := 226) (lv' := [(0, .ref v0), (1, .ref v1), (2, .int v2), (3, .int v3), (4, .int v4), (5, .int v5), (6, .int v6), (7, .int v7), (8, .int v8)]) (st' := [.int v8, .ref z7, .int z6, .int v4, .ref z5]) rfl ?_
  refine x_aB e rfl (.inr rfl) rfl (fun z8 e => ?_)
  refine z_eq e rfl (fun e => ?_) (fun e => ?_)
  · refine wp_p (j := J_Sheet_readPart) 1 (pc' := 237) (lv' := [(0, .ref v0), (1, .ref v1), (2, .int v2), (3, .int v3), (4, .int v4), (5, .int v5), (6, .int v6), (7, .int v7), (8, .int v8)]) (st' := [.int 10, .int z6, .int v4, .ref z5]) rfl ?_
    exact wp_lv (lv' := [(0, .ref v0), (1, .ref v1), (2, .int v2), (3, .int v3), (4, .int v4), (5, .int v5), (7, .int v7)]) rfl ⟨rfl, rfl, rfl, rfl, rfl, rfl, rfl, trivial⟩ (x_Sheet_readPart_237 e c)
  · refine wp_p (j := J_Sheet_readPart) 2 (pc' := 237) (lv' := [(0, .ref v0), (1, .ref v1), (2, .int v2), (3, .int v3), (4, .int v4), (5, .int v5), (6, .int v6), (7, .int v7), (8, .int v8)]) (st' := [.int 100, .int z6, .int v4, .ref z5]) rfl ?_
    exact wp_lv (lv' := [(0, .ref v0), (1, .ref v1), (2, .int v2), (3, .int v3), (4, .int v4), (5, .int v5), (7, .int v7)]) rfl ⟨rfl, rfl, rfl, rfl, rfl, rfl, rfl, trivial⟩ (x_Sheet_readPart_237 e c)
noncomputable def k_Sheet_readPart_124 (v0 : Nat) (v1 : Nat) (v2 : Int32) (v3 : Int32) (v4 : Int32) (v5 : Int32) (v6 : Int32) (g : g_S) : Option ((Int32 × g_S) ⊕ ((Int32 × g_S) ⊕ (Int32 × g_S))) :=
  (rQ g 109 v0 5).bind fun z1 =>
  (aI g 0 z1 v5).bind fun z2 =>
  if z2 < 4 then
    (M_Bytes_nameEnd v1 (v6 + 1) v3 g).bind fun z3 =>
    if z3 = (v6 + 1) then
      some (.inr (.inl (z3, g)))
    else
      (rQ g 109 v0 5).bind fun z4 =>
      (aI g 0 z4 v5).bind fun z5 =>
      (rQ g 109 v0 7).bind fun z6 =>
      (aI g 1 v1 v6).bind fun z7 =>
      if z7 = 35 then
        k_Sheet_readPart_194 v0 v1 v2 v3 v4 v5 v6 z3 ((v5 * 4) + z5) 1 ((v5 * 4) + z5) z6 g
      else
        k_Sheet_readPart_194 v0 v1 v2 v3 v4 v5 v6 z3 ((v5 * 4) + z5) 0 ((v5 * 4) + z5) z6 g
  else
    some (.inr (.inr (v6, g)))
set_option maxRecDepth 20000 in
theorem x_Sheet_readPart_124 {L : Nat} {xs : Nat → Int32} {Q : Option Value → ab_H → Prop} {v0 : Nat} {v1 : Nat} {v2 : Int32} {v3 : Int32} {v4 : Int32} {v5 : Int32} {v6 : Int32} {g : g_S} {out : (Int32 × g_S) ⊕ ((Int32 × g_S) ⊕ (Int32 × g_S))} (e : k_Sheet_readPart_124 v0 v1 v2 v3 v4 v5 v6 g = some out) (c : cL_Sheet_readPart_100 L xs Q v0 v1 v2 v3 v4 v5 out) : wp (ab_ext L xs) J_Sheet_readPart 124 [(0, .ref v0), (1, .ref v1), (2, .int v2), (3, .int v3), (4, .int v4), (5, .int v5), (6, .int v6)] [] (hp g) Q := by
  unfold k_Sheet_readPart_124 at e
  refine wp_p (j := J_Sheet_readPart) 1 (pc' := 125) (lv' := [(0, .ref v0), (1, .ref v1), (2, .int v2), (3, .int v3), (4, .int v4), (5, .int v5), (6, .int v6)]) (st' := [.ref v0]) rfl ?_
  refine x_gQ e rfl rfl fd_9_5 rfl (fun z1 e => ?_)
  refine wp_p (j := J_Sheet_readPart) 1 (pc' := 130) (lv' := [(0, .ref v0), (1, .ref v1), (2, .int v2), (3, .int v3), (4, .int v4), (5, .int v5), (6, .int v6)]) (st' := [.int v5, .ref z1]) rfl ?_
  refine x_aI e rfl rfl (fun z2 e => ?_)
  refine wp_p (j := J_Sheet_readPart) 1 (pc' := 132) (lv' := [(0, .ref v0), (1, .ref v1), (2, .int v2), (3, .int v3), (4, .int v4), (5, .int v5), (6, .int v6)]) (st' := [.int 4, .int z2]) rfl ?_
  refine x_ge e rfl (fun e => ?_) (fun e => ?_)
  · refine wp_p (j := J_Sheet_readPart) 5 (pc' := 141) (lv' := [(0, .ref v0), (1, .ref v1), (2, .int v2), (3, .int v3), (4, .int v4), (5, .int v5), (6, .int v6)]) (st' := [.int v3, .int (v6 + 1), .ref v1]) rfl ?_
    refine x_cs1 (As := [.ref v1, .int (v6 + 1), .int v3]) (rest := []) Value.int e rfl rfl rfl rfl rfl (fun h => d_Bytes_nameEnd h ⟨rfl, rfl⟩) (fun z3 e => ?_)
    refine wp_p (j := J_Sheet_readPart) 5 (pc' := 152) (lv' := [(7, .int z3), (0, .ref v0), (1, .ref v1), (2, .int v2), (3, .int v3), (4, .int v4), (5, .int v5), (6, .int v6)]) (st' := [.int (v6 + 1), .int z3]) rfl ?_
    refine x_ne e rfl (fun e => ?_) (fun e => ?_)
    · have e := Option.some.inj e; subst e; exact wp_lv (lv' := [(7, .int z3)]) rfl ⟨rfl, trivial⟩ c
    · refine wp_p (j := J_Sheet_readPart) 4 (pc' := 165) (lv' := [(7, .int z3), (0, .ref v0), (1, .ref v1), (2, .int v2), (3, .int v3), (4, .int v4), (5, .int v5), (6, .int v6)]) (st' := [.ref v0, .int (v5 * 4)]) rfl ?_
      refine x_gQ e rfl rfl fd_9_5 rfl (fun z4 e => ?_)
      refine wp_p (j := J_Sheet_readPart) 1 (pc' := 170) (lv' := [(7, .int z3), (0, .ref v0), (1, .ref v1), (2, .int v2), (3, .int v3), (4, .int v4), (5, .int v5), (6, .int v6)]) (st' := [.int v5, .ref z4, .int (v5 * 4)]) rfl ?_
      refine x_aI e rfl rfl (fun z5 e => ?_)
      refine wp_p (j := J_Sheet_readPart) 3 (pc' := 175) (lv' := [(8, .int ((v5 * 4) + z5)), (7, .int z3), (0, .ref v0), (1, .ref v1), (2, .int v2), (3, .int v3), (4, .int v4), (5, .int v5), (6, .int v6)]) (st' := [.ref v0]) rfl ?_
      refine x_gQ e rfl rfl fd_9_7 rfl (fun z6 e => ?_)
      refine wp_p (j := J_Sheet_readPart) 3 (pc' := 183) (lv' := [(8, .int ((v5 * 4) + z5)), (7, .int z3), (0, .ref v0), (1, .ref v1), (2, .int v2), (3, .int v3), (4, .int v4), (5, .int v5), (6, .int v6)]) (st' := [.int v6, .ref v1, .int ((v5 * 4) + z5), .ref z6]) rfl ?_
      refine x_aB e rfl (.inl rfl) rfl (fun z7 e => ?_)
      refine wp_p (j := J_Sheet_readPart) 1 (pc' := 186) (lv' := [(8, .int ((v5 * 4) + z5)), (7, .int z3), (0, .ref v0), (1, .ref v1), (2, .int v2), (3, .int v3), (4, .int v4), (5, .int v5), (6, .int v6)]) (st' := [.int 35, .int z7, .int ((v5 * 4) + z5), .ref z6]) rfl ?_
      refine x_ne e rfl (fun e => ?_) (fun e => ?_)
      · refine wp_p (j := J_Sheet_readPart) 2 (pc' := 194) (lv' := [(8, .int ((v5 * 4) + z5)), (7, .int z3), (0, .ref v0), (1, .ref v1), (2, .int v2), (3, .int v3), (4, .int v4), (5, .int v5), (6, .int v6)]) (st' := [.int 1, .int ((v5 * 4) + z5), .ref z6]) rfl ?_
        exact wp_lv (lv' := [(0, .ref v0), (1, .ref v1), (2, .int v2), (3, .int v3), (4, .int v4), (5, .int v5), (6, .int v6), (7, .int z3), (8, .int ((v5 * 4) + z5))]) rfl ⟨rfl, rfl, rfl, rfl, rfl, rfl, rfl, rfl, rfl, trivial⟩ (x_Sheet_readPart_194 e c)
      · refine wp_p (j := J_Sheet_readPart) 1 (pc' := 194) (lv' := [(8, .int ((v5 * 4) + z5)), (7, .int z3), (0, .ref v0), (1, .ref v1), (2, .int v2), (3, .int v3), (4, .int v4), (5, .int v5), (6, .int v6)]) (st' := [.int 0, .int ((v5 * 4) + z5), .ref z6]) rfl ?_
        exact wp_lv (lv' := [(0, .ref v0), (1, .ref v1), (2, .int v2), (3, .int v3), (4, .int v4), (5, .int v5), (6, .int v6), (7, .int z3), (8, .int ((v5 * 4) + z5))]) rfl ⟨rfl, rfl, rfl, rfl, rfl, rfl, rfl, rfl, rfl, trivial⟩ (x_Sheet_readPart_194 e c)
  · have e := Option.some.inj e; subst e; exact wp_lv (lv' := [(2, .int v2), (6, .int v6)]) rfl ⟨rfl, rfl, trivial⟩ c
noncomputable def b_Sheet_readPart_100 (v0 : Nat) (v1 : Nat) (v2 : Int32) (v3 : Int32) (v4 : Int32) (v5 : Int32) (v6 : Int32) (g : g_S) : Option ((Int32 × g_S) ⊕ ((Int32 × g_S) ⊕ (Int32 × g_S))) :=
  if v6 < v3 then
    (aI g 1 v1 v6).bind fun z1 =>
    if z1 = 46 then
      k_Sheet_readPart_124 v0 v1 v2 v3 v4 v5 v6 g
    else
      (aI g 1 v1 v6).bind fun z2 =>
      if z2 = 35 then
        k_Sheet_readPart_124 v0 v1 v2 v3 v4 v5 v6 g
      else
        some (.inr (.inr (v6, g)))
  else
    some (.inr (.inr (v6, g)))
set_option maxRecDepth 20000 in
theorem y_Sheet_readPart_100 {L : Nat} {xs : Nat → Int32} {Q : Option Value → ab_H → Prop} {v0 : Nat} {v1 : Nat} {v2 : Int32} {v3 : Int32} {v4 : Int32} {v5 : Int32} {v6 : Int32} {g : g_S} {out : (Int32 × g_S) ⊕ ((Int32 × g_S) ⊕ (Int32 × g_S))} (e : b_Sheet_readPart_100 v0 v1 v2 v3 v4 v5 v6 g = some out) (c : cL_Sheet_readPart_100 L xs Q v0 v1 v2 v3 v4 v5 out) : wp (ab_ext L xs) J_Sheet_readPart 100 [(0, .ref v0), (1, .ref v1), (2, .int v2), (3, .int v3), (4, .int v4), (5, .int v5), (6, .int v6)] [] (hp g) Q := by
  unfold b_Sheet_readPart_100 at e
  refine wp_p (j := J_Sheet_readPart) 2 (pc' := 103) (lv' := [(0, .ref v0), (1, .ref v1), (2, .int v2), (3, .int v3), (4, .int v4), (5, .int v5), (6, .int v6)]) (st' := [.int v3, .int v6]) rfl ?_
  refine x_ge e rfl (fun e => ?_) (fun e => ?_)
  · refine wp_p (j := J_Sheet_readPart) 2 (pc' := 109) (lv' := [(0, .ref v0), (1, .ref v1), (2, .int v2), (3, .int v3), (4, .int v4), (5, .int v5), (6, .int v6)]) (st' := [.int v6, .ref v1]) rfl ?_
    refine x_aB e rfl (.inl rfl) rfl (fun z1 e => ?_)
    refine wp_p (j := J_Sheet_readPart) 1 (pc' := 112) (lv' := [(0, .ref v0), (1, .ref v1), (2, .int v2), (3, .int v3), (4, .int v4), (5, .int v5), (6, .int v6)]) (st' := [.int 46, .int z1]) rfl ?_
    refine x_eq e rfl (fun e => ?_) (fun e => ?_)
    · exact wp_lv (lv' := [(0, .ref v0), (1, .ref v1), (2, .int v2), (3, .int v3), (4, .int v4), (5, .int v5), (6, .int v6)]) rfl ⟨rfl, rfl, rfl, rfl, rfl, rfl, rfl, trivial⟩ (x_Sheet_readPart_124 e c)
    · refine wp_p (j := J_Sheet_readPart) 2 (pc' := 118) (lv' := [(0, .ref v0), (1, .ref v1), (2, .int v2), (3, .int v3), (4, .int v4), (5, .int v5), (6, .int v6)]) (st' := [.int v6, .ref v1]) rfl ?_
      refine x_aB e rfl (.inl rfl) rfl (fun z2 e => ?_)
      refine wp_p (j := J_Sheet_readPart) 1 (pc' := 121) (lv' := [(0, .ref v0), (1, .ref v1), (2, .int v2), (3, .int v3), (4, .int v4), (5, .int v5), (6, .int v6)]) (st' := [.int 35, .int z2]) rfl ?_
      refine x_ne e rfl (fun e => ?_) (fun e => ?_)
      · exact wp_lv (lv' := [(0, .ref v0), (1, .ref v1), (2, .int v2), (3, .int v3), (4, .int v4), (5, .int v5), (6, .int v6)]) rfl ⟨rfl, rfl, rfl, rfl, rfl, rfl, rfl, trivial⟩ (x_Sheet_readPart_124 e c)
      · have e := Option.some.inj e; subst e; exact wp_lv (lv' := [(2, .int v2), (6, .int v6)]) rfl ⟨rfl, rfl, trivial⟩ c
  · have e := Option.some.inj e; subst e; exact wp_lv (lv' := [(2, .int v2), (6, .int v6)]) rfl ⟨rfl, rfl, trivial⟩ c
noncomputable def L_Sheet_readPart_100 (v0 : Nat) (v1 : Nat) (v2 : Int32) (v3 : Int32) (v4 : Int32) (v5 : Int32) (v6 : Int32) (g : g_S) : Option ((Int32 × g_S) ⊕ (Int32 × g_S)) := it (fun s : Int32 × g_S => b_Sheet_readPart_100 v0 v1 v2 v3 v4 v5 s.1 s.2) (v6, g)
theorem l_Sheet_readPart_100 {L : Nat} {xs : Nat → Int32} {Q : Option Value → ab_H → Prop} {v0 : Nat} {v1 : Nat} {v2 : Int32} {v3 : Int32} {v4 : Int32} {v5 : Int32} {v6 : Int32} {g : g_S} {r : (Int32 × g_S) ⊕ (Int32 × g_S)} (e : L_Sheet_readPart_100 v0 v1 v2 v3 v4 v5 v6 g = some r) (c : cL_Sheet_readPart_100 L xs Q v0 v1 v2 v3 v4 v5 (.inr r)) : wp (ab_ext L xs) J_Sheet_readPart 100 [(0, .ref v0), (1, .ref v1), (2, .int v2), (3, .int v3), (4, .int v4), (5, .int v5), (6, .int v6)] [] (hp g) Q :=
  it_wp (P := fun s : Int32 × g_S => wp (ab_ext L xs) J_Sheet_readPart 100 [(0, .ref v0), (1, .ref v1), (2, .int v2), (3, .int v3), (4, .int v4), (5, .int v5), (6, .int s.1)] [] (hp s.2) Q) (E := fun r => cL_Sheet_readPart_100 L xs Q v0 v1 v2 v3 v4 v5 (.inr r)) (fun s out e c => y_Sheet_readPart_100 e (by cases out <;> exact c)) e c
theorem L_Sheet_readPart_100_eq (v0 : Nat) (v1 : Nat) (v2 : Int32) (v3 : Int32) (v4 : Int32) (v5 : Int32) (v6 : Int32) (g : g_S) : L_Sheet_readPart_100 v0 v1 v2 v3 v4 v5 v6 g = itc (b_Sheet_readPart_100 v0 v1 v2 v3 v4 v5 v6 g) (fun s => L_Sheet_readPart_100 v0 v1 v2 v3 v4 v5 s.1 s.2) := it_eq2 (fun s : Int32 × g_S => b_Sheet_readPart_100 v0 v1 v2 v3 v4 v5 s.1 s.2) (v6, g)
noncomputable def k_Sheet_readPart_257 (v2 : Int32) (v6 : Int32) (g : g_S) : Option (Int32 × g_S) :=
  if v6 = v2 then
    some ((-1) - v6, g)
  else
    some (v6, g)
set_option maxRecDepth 20000 in
theorem x_Sheet_readPart_257 {L : Nat} {xs : Nat → Int32} {Q : Option Value → ab_H → Prop} {v2 : Int32} {v6 : Int32} {g : g_S} {out : Int32 × g_S} (e : k_Sheet_readPart_257 v2 v6 g = some out) (c : Q (some (.int out.1)) (hp out.2)) : wp (ab_ext L xs) J_Sheet_readPart 257 [(2, .int v2), (6, .int v6)] [] (hp g) Q := by
  unfold k_Sheet_readPart_257 at e
  refine wp_p (j := J_Sheet_readPart) 2 (pc' := 260) (lv' := [(2, .int v2), (6, .int v6)]) (st' := [.int v2, .int v6]) rfl ?_
  refine x_ne e rfl (fun e => ?_) (fun e => ?_)
  · refine wp_p (j := J_Sheet_readPart) 4 (pc' := 272) (lv' := [(2, .int v2), (6, .int v6)]) (st' := [.int ((-1) - v6)]) rfl ?_
    have e := Option.some.inj e; subst e; exact wp_iret (ty := .int) rfl rfl rfl c
  · refine wp_p (j := J_Sheet_readPart) 1 (pc' := 272) (lv' := [(2, .int v2), (6, .int v6)]) (st' := [.int v6]) rfl ?_
    have e := Option.some.inj e; subst e; exact wp_iret (ty := .int) rfl rfl rfl c
noncomputable def k_Sheet_readPart_92 (v0 : Nat) (v1 : Nat) (v2 : Int32) (v3 : Int32) (v4 : Int32) (v5 : Int32) (v6 : Int32) (g : g_S) : Option (Int32 × g_S) :=
  (rQ g 109 v0 5).bind fun z1 =>
  (sI g z1 v5 0).bind fun g2 =>
  (L_Sheet_readPart_100 v0 v1 v2 v3 v4 v5 v6 g2).bind <|
    us (u2 fun z5 g6 =>
    some ((-1) - z5, g6))
    (u2 fun z7 g8 =>
    k_Sheet_readPart_257 v2 z7 g8)
set_option maxRecDepth 20000 in
theorem x_Sheet_readPart_92 {L : Nat} {xs : Nat → Int32} {Q : Option Value → ab_H → Prop} {v0 : Nat} {v1 : Nat} {v2 : Int32} {v3 : Int32} {v4 : Int32} {v5 : Int32} {v6 : Int32} {g : g_S} {out : Int32 × g_S} (e : k_Sheet_readPart_92 v0 v1 v2 v3 v4 v5 v6 g = some out) (c : Q (some (.int out.1)) (hp out.2)) : wp (ab_ext L xs) J_Sheet_readPart 92 [(0, .ref v0), (1, .ref v1), (2, .int v2), (3, .int v3), (4, .int v4), (5, .int v5), (6, .int v6)] [] (hp g) Q := by
  unfold k_Sheet_readPart_92 at e
  refine wp_p (j := J_Sheet_readPart) 1 (pc' := 93) (lv' := [(0, .ref v0), (1, .ref v1), (2, .int v2), (3, .int v3), (4, .int v4), (5, .int v5), (6, .int v6)]) (st' := [.ref v0]) rfl ?_
  refine x_gQ e rfl rfl fd_9_5 rfl (fun z1 e => ?_)
  refine wp_p (j := J_Sheet_readPart) 2 (pc' := 99) (lv' := [(0, .ref v0), (1, .ref v1), (2, .int v2), (3, .int v3), (4, .int v4), (5, .int v5), (6, .int v6)]) (st' := [.int 0, .int v5, .ref z1]) rfl ?_
  refine x_sI e rfl rfl (fun g2 e => ?_)
  obtain ⟨s3, h4, e⟩ := bd e
  refine wp_lv (lv' := [(0, .ref v0), (1, .ref v1), (2, .int v2), (3, .int v3), (4, .int v4), (5, .int v5), (6, .int v6)]) rfl ⟨rfl, rfl, rfl, rfl, rfl, rfl, rfl, trivial⟩ ?_
  refine l_Sheet_readPart_100 h4 ?_
  rcases s3 with ⟨z5, g6⟩ | ⟨z7, g8⟩
  · replace e := (u2_e (us_l e))
    show wp (ab_ext L xs) J_Sheet_readPart 155 [(7, .int z5)] [] (hp g6) Q
    refine wp_p (j := J_Sheet_readPart) 3 (pc' := 159) (lv' := [(7, .int z5)]) (st' := [.int ((-1) - z5)]) rfl ?_
    have e := Option.some.inj e; subst e; exact wp_iret (ty := .int) rfl rfl rfl c
  · replace e := (u2_e (us_r e))
    show wp (ab_ext L xs) J_Sheet_readPart 257 [(2, .int v2), (6, .int z7)] [] (hp g8) Q
    exact wp_lv (lv' := [(2, .int v2), (6, .int z7)]) rfl ⟨rfl, rfl, trivial⟩ (x_Sheet_readPart_257 e c)
noncomputable def k_Sheet_readPart_66 (v0 : Nat) (v1 : Nat) (v2 : Int32) (v3 : Int32) (v4 : Int32) (v5 : Int32) (v6 : Int32) (w0 : Int32) (w1 : Int32) (w2 : Int32) (w3 : Nat) (g : g_S) : Option (Int32 × g_S) :=
  (sI g w3 w2 (w1 + w0)).bind fun g1 =>
  if v6 = v2 then
    if v6 < v3 then
      (aI g1 1 v1 v6).bind fun z2 =>
      if z2 = 42 then
        k_Sheet_readPart_92 v0 v1 v2 v3 v4 v5 (v6 + 1) g1
      else
        k_Sheet_readPart_92 v0 v1 v2 v3 v4 v5 v6 g1
    else
      k_Sheet_readPart_92 v0 v1 v2 v3 v4 v5 v6 g1
  else
    k_Sheet_readPart_92 v0 v1 v2 v3 v4 v5 v6 g1
set_option maxRecDepth 20000 in
theorem x_Sheet_readPart_66 {L : Nat} {xs : Nat → Int32} {Q : Option Value → ab_H → Prop} {v0 : Nat} {v1 : Nat} {v2 : Int32} {v3 : Int32} {v4 : Int32} {v5 : Int32} {v6 : Int32} {w0 : Int32} {w1 : Int32} {w2 : Int32} {w3 : Nat} {g : g_S} {out : Int32 × g_S} (e : k_Sheet_readPart_66 v0 v1 v2 v3 v4 v5 v6 w0 w1 w2 w3 g = some out) (c : Q (some (.int out.1)) (hp out.2)) : wp (ab_ext L xs) J_Sheet_readPart 66 [(0, .ref v0), (1, .ref v1), (2, .int v2), (3, .int v3), (4, .int v4), (5, .int v5), (6, .int v6)] [.int w0, .int w1, .int w2, .ref w3] (hp g) Q := by
  unfold k_Sheet_readPart_66 at e
  refine wp_p (j := J_Sheet_readPart) 1 (pc' := 67) (lv' := [(0, .ref v0), (1, .ref v1), (2, .int v2), (3, .int v3), (4, .int v4), (5, .int v5), (6, .int v6)]) (st' := [.int (w1 + w0), .int w2, .ref w3]) rfl ?_
  refine x_sI e rfl rfl (fun g1 e => ?_)
  refine wp_p (j := J_Sheet_readPart) 2 (pc' := 71) (lv' := [(0, .ref v0), (1, .ref v1), (2, .int v2), (3, .int v3), (4, .int v4), (5, .int v5), (6, .int v6)]) (st' := [.int v2, .int v6]) rfl ?_
  refine x_ne e rfl (fun e => ?_) (fun e => ?_)
  · refine wp_p (j := J_Sheet_readPart) 2 (pc' := 77) (lv' := [(0, .ref v0), (1, .ref v1), (2, .int v2), (3, .int v3), (4, .int v4), (5, .int v5), (6, .int v6)]) (st' := [.int v3, .int v6]) rfl ?_
    refine x_ge e rfl (fun e => ?_) (fun e => ?_)
    · refine wp_p (j := J_Sheet_readPart) 2 (pc' := 83) (lv' := [(0, .ref v0), (1, .ref v1), (2, .int v2), (3, .int v3), (4, .int v4), (5, .int v5), (6, .int v6)]) (st' := [.int v6, .ref v1]) rfl ?_
      refine x_aB e rfl (.inl rfl) rfl (fun z2 e => ?_)
      refine wp_p (j := J_Sheet_readPart) 1 (pc' := 86) (lv' := [(0, .ref v0), (1, .ref v1), (2, .int v2), (3, .int v3), (4, .int v4), (5, .int v5), (6, .int v6)]) (st' := [.int 42, .int z2]) rfl ?_
      refine x_ne e rfl (fun e => ?_) (fun e => ?_)
      · refine wp_p (j := J_Sheet_readPart) 1 (pc' := 92) (lv' := [(6, .int (v6 + 1)), (0, .ref v0), (1, .ref v1), (2, .int v2), (3, .int v3), (4, .int v4), (5, .int v5)]) (st' := []) rfl ?_
        exact wp_lv (lv' := [(0, .ref v0), (1, .ref v1), (2, .int v2), (3, .int v3), (4, .int v4), (5, .int v5), (6, .int (v6 + 1))]) rfl ⟨rfl, rfl, rfl, rfl, rfl, rfl, rfl, trivial⟩ (x_Sheet_readPart_92 e c)
      · exact wp_lv (lv' := [(0, .ref v0), (1, .ref v1), (2, .int v2), (3, .int v3), (4, .int v4), (5, .int v5), (6, .int v6)]) rfl ⟨rfl, rfl, rfl, rfl, rfl, rfl, rfl, trivial⟩ (x_Sheet_readPart_92 e c)
    · exact wp_lv (lv' := [(0, .ref v0), (1, .ref v1), (2, .int v2), (3, .int v3), (4, .int v4), (5, .int v5), (6, .int v6)]) rfl ⟨rfl, rfl, rfl, rfl, rfl, rfl, rfl, trivial⟩ (x_Sheet_readPart_92 e c)
  · exact wp_lv (lv' := [(0, .ref v0), (1, .ref v1), (2, .int v2), (3, .int v3), (4, .int v4), (5, .int v5), (6, .int v6)]) rfl ⟨rfl, rfl, rfl, rfl, rfl, rfl, rfl, trivial⟩ (x_Sheet_readPart_92 e c)
noncomputable def M_Sheet_readPart (v0 : Nat) (v1 : Nat) (v2 : Int32) (v3 : Int32) (v4 : Int32) (g : g_S) : Option (Int32 × g_S) :=
  (rQ g 109 v0 1).bind fun z1 =>
  (aI g 0 z1 v4).bind fun z2 =>
  (rQ g 109 v0 1).bind fun z3 =>
  (aI g 0 z3 v4).bind fun z4 =>
  (sI g z3 v4 (z4 + 1)).bind fun g5 =>
  (M_Bytes_nameEnd v1 v2 v3 g5).bind fun z6 =>
  (rQ g5 109 v0 4).bind fun z7 =>
  (M_Bytes_pack v1 v2 z6 g5).bind fun z8 =>
  (sL g5 z7 ((v4 * 3) + z2) z8).bind fun g9 =>
  (rQ g9 109 v0 2).bind fun z10 =>
  (aI g9 0 z10 v4).bind fun z11 =>
  if v2 < z6 then
    k_Sheet_readPart_66 v0 v1 v2 v3 v4 ((v4 * 3) + z2) z6 1 z11 v4 z10 g9
  else
    k_Sheet_readPart_66 v0 v1 v2 v3 v4 ((v4 * 3) + z2) z6 0 z11 v4 z10 g9
set_option maxRecDepth 20000 in
theorem d_Sheet_readPart {L : Nat} {xs : Nat → Int32} {Q : Option Value → ab_H → Prop} {v0 : Nat} {v1 : Nat} {v2 : Int32} {v3 : Int32} {v4 : Int32} {g : g_S} {out : Int32 × g_S} (e : M_Sheet_readPart v0 v1 v2 v3 v4 g = some out) (c : Q (some (.int out.1)) (hp out.2)) : mw (ab_ext L xs) J_Sheet_readPart [.ref v0, .ref v1, .int v2, .int v3, .int v4] (hp g) Q := by
  unfold M_Sheet_readPart at e
  refine wp_p (j := J_Sheet_readPart) 4 (pc' := 5) (lv' := [(0, .ref v0), (1, .ref v1), (2, .int v2), (3, .int v3), (4, .int v4)]) (st' := [.ref v0, .int (v4 * 3)]) rfl ?_
  refine x_gQ e rfl rfl fd_9_1 rfl (fun z1 e => ?_)
  refine wp_p (j := J_Sheet_readPart) 1 (pc' := 10) (lv' := [(0, .ref v0), (1, .ref v1), (2, .int v2), (3, .int v3), (4, .int v4)]) (st' := [.int v4, .ref z1, .int (v4 * 3)]) rfl ?_
  refine x_aI e rfl rfl (fun z2 e => ?_)
  refine wp_p (j := J_Sheet_readPart) 3 (pc' := 15) (lv' := [(5, .int ((v4 * 3) + z2)), (0, .ref v0), (1, .ref v1), (2, .int v2), (3, .int v3), (4, .int v4)]) (st' := [.ref v0]) rfl ?_
  refine x_gQ e rfl rfl fd_9_1 rfl (fun z3 e => ?_)
  refine wp_p (j := J_Sheet_readPart) 2 (pc' := 21) (lv' := [(5, .int ((v4 * 3) + z2)), (0, .ref v0), (1, .ref v1), (2, .int v2), (3, .int v3), (4, .int v4)]) (st' := [.int v4, .ref z3, .int v4, .ref z3]) rfl ?_
  refine x_aI e rfl rfl (fun z4 e => ?_)
  refine wp_p (j := J_Sheet_readPart) 2 (pc' := 24) (lv' := [(5, .int ((v4 * 3) + z2)), (0, .ref v0), (1, .ref v1), (2, .int v2), (3, .int v3), (4, .int v4)]) (st' := [.int (z4 + 1), .int v4, .ref z3]) rfl ?_
  refine x_sI e rfl rfl (fun g5 e => ?_)
  refine wp_p (j := J_Sheet_readPart) 3 (pc' := 28) (lv' := [(5, .int ((v4 * 3) + z2)), (0, .ref v0), (1, .ref v1), (2, .int v2), (3, .int v3), (4, .int v4)]) (st' := [.int v3, .int v2, .ref v1]) rfl ?_
  refine x_cs1 (As := [.ref v1, .int v2, .int v3]) (rest := []) Value.int e rfl rfl rfl rfl rfl (fun h => d_Bytes_nameEnd h ⟨rfl, rfl⟩) (fun z6 e => ?_)
  refine wp_p (j := J_Sheet_readPart) 2 (pc' := 34) (lv' := [(6, .int z6), (5, .int ((v4 * 3) + z2)), (0, .ref v0), (1, .ref v1), (2, .int v2), (3, .int v3), (4, .int v4)]) (st' := [.ref v0]) rfl ?_
  refine x_gQ e rfl rfl fd_9_4 rfl (fun z7 e => ?_)
  refine wp_p (j := J_Sheet_readPart) 4 (pc' := 43) (lv' := [(6, .int z6), (5, .int ((v4 * 3) + z2)), (0, .ref v0), (1, .ref v1), (2, .int v2), (3, .int v3), (4, .int v4)]) (st' := [.int z6, .int v2, .ref v1, .int ((v4 * 3) + z2), .ref z7]) rfl ?_
  refine x_cs1 (As := [.ref v1, .int v2, .int z6]) (rest := [.int ((v4 * 3) + z2), .ref z7]) Value.long e rfl rfl rfl rfl rfl (fun h => d_Bytes_pack h ⟨rfl, rfl⟩) (fun z8 e => ?_)
  refine x_sL e rfl rfl (fun g9 e => ?_)
  refine wp_p (j := J_Sheet_readPart) 1 (pc' := 48) (lv' := [(6, .int z6), (5, .int ((v4 * 3) + z2)), (0, .ref v0), (1, .ref v1), (2, .int v2), (3, .int v3), (4, .int v4)]) (st' := [.ref v0]) rfl ?_
  refine x_gQ e rfl rfl fd_9_2 rfl (fun z10 e => ?_)
  refine wp_p (j := J_Sheet_readPart) 2 (pc' := 54) (lv' := [(6, .int z6), (5, .int ((v4 * 3) + z2)), (0, .ref v0), (1, .ref v1), (2, .int v2), (3, .int v3), (4, .int v4)]) (st' := [.int v4, .ref z10, .int v4, .ref z10]) rfl ?_
  refine x_aI e rfl rfl (fun z11 e => ?_)
  refine wp_p (j := J_Sheet_readPart) 2 (pc' := 58) (lv' := [(6, .int z6), (5, .int ((v4 * 3) + z2)), (0, .ref v0), (1, .ref v1), (2, .int v2), (3, .int v3), (4, .int v4)]) (st' := [.int v2, .int z6, .int z11, .int v4, .ref z10]) rfl ?_
  refine x_le e rfl (fun e => ?_) (fun e => ?_)
  · refine wp_p (j := J_Sheet_readPart) 2 (pc' := 66) (lv' := [(6, .int z6), (5, .int ((v4 * 3) + z2)), (0, .ref v0), (1, .ref v1), (2, .int v2), (3, .int v3), (4, .int v4)]) (st' := [.int 1, .int z11, .int v4, .ref z10]) rfl ?_
    exact wp_lv (lv' := [(0, .ref v0), (1, .ref v1), (2, .int v2), (3, .int v3), (4, .int v4), (5, .int ((v4 * 3) + z2)), (6, .int z6)]) rfl ⟨rfl, rfl, rfl, rfl, rfl, rfl, rfl, trivial⟩ (x_Sheet_readPart_66 e c)
  · refine wp_p (j := J_Sheet_readPart) 1 (pc' := 66) (lv' := [(6, .int z6), (5, .int ((v4 * 3) + z2)), (0, .ref v0), (1, .ref v1), (2, .int v2), (3, .int v3), (4, .int v4)]) (st' := [.int 0, .int z11, .int v4, .ref z10]) rfl ?_
    exact wp_lv (lv' := [(0, .ref v0), (1, .ref v1), (2, .int v2), (3, .int v3), (4, .int v4), (5, .int ((v4 * 3) + z2)), (6, .int z6)]) rfl ⟨rfl, rfl, rfl, rfl, rfl, rfl, rfl, trivial⟩ (x_Sheet_readPart_66 e c)
def cL_Sheet_skipBlanks_2 (L : Nat) (xs : Nat → Int32) (Q : Option Value → ab_H → Prop) (v0 : Nat) (v2 : Int32) (g : g_S) (out : (Int32) ⊕ (Int32)) : Prop := match out with
  | .inl s => wp (ab_ext L xs) J_Sheet_skipBlanks 2 [(0, .ref v0), (2, .int v2), (3, .int s)] [] (hp g) Q
  | .inr s => wp (ab_ext L xs) J_Sheet_skipBlanks 22 [(3, .int s)] [] (hp g) Q
noncomputable def b_Sheet_skipBlanks_2 (v0 : Nat) (v2 : Int32) (v3 : Int32) (g : g_S) : Option ((Int32) ⊕ (Int32)) :=
  if v3 < v2 then
    (aI g 1 v0 v3).bind fun z1 =>
    (M_Bytes_isBlank z1 g).bind fun z2 =>
    if z2 = 0 then
      some (.inr v3)
    else
      some (.inl (v3 + 1))
  else
    some (.inr v3)
set_option maxRecDepth 20000 in
theorem y_Sheet_skipBlanks_2 {L : Nat} {xs : Nat → Int32} {Q : Option Value → ab_H → Prop} {v0 : Nat} {v2 : Int32} {v3 : Int32} {g : g_S} {out : (Int32) ⊕ (Int32)} (e : b_Sheet_skipBlanks_2 v0 v2 v3 g = some out) (c : cL_Sheet_skipBlanks_2 L xs Q v0 v2 g out) : wp (ab_ext L xs) J_Sheet_skipBlanks 2 [(0, .ref v0), (2, .int v2), (3, .int v3)] [] (hp g) Q := by
  unfold b_Sheet_skipBlanks_2 at e
  refine wp_p (j := J_Sheet_skipBlanks) 2 (pc' := 4) (lv' := [(0, .ref v0), (2, .int v2), (3, .int v3)]) (st' := [.int v2, .int v3]) rfl ?_
  refine x_ge e rfl (fun e => ?_) (fun e => ?_)
  · refine wp_p (j := J_Sheet_skipBlanks) 2 (pc' := 9) (lv' := [(0, .ref v0), (2, .int v2), (3, .int v3)]) (st' := [.int v3, .ref v0]) rfl ?_
    refine x_aB e rfl (.inl rfl) rfl (fun z1 e => ?_)
    refine x_cs1 (As := [.int z1]) (rest := []) Value.int e rfl rfl rfl rfl rfl (fun h => d_Bytes_isBlank h ⟨rfl, rfl⟩) (fun z2 e => ?_)
    refine z_eq e rfl (fun e => ?_) (fun e => ?_)
    · have e := Option.some.inj e; subst e; exact wp_lv (lv' := [(3, .int v3)]) rfl ⟨rfl, trivial⟩ c
    · refine wp_p (j := J_Sheet_skipBlanks) 2 (pc' := 2) (lv' := [(3, .int (v3 + 1)), (0, .ref v0), (2, .int v2)]) (st' := []) rfl ?_
      have e := Option.some.inj e; subst e; exact wp_lv (lv' := [(0, .ref v0), (2, .int v2), (3, .int (v3 + 1))]) rfl ⟨rfl, rfl, rfl, trivial⟩ c
  · have e := Option.some.inj e; subst e; exact wp_lv (lv' := [(3, .int v3)]) rfl ⟨rfl, trivial⟩ c
noncomputable def L_Sheet_skipBlanks_2 (v0 : Nat) (v2 : Int32) (v3 : Int32) (g : g_S) : Option (Int32) := it (fun s : Int32 => b_Sheet_skipBlanks_2 v0 v2 s g) (v3)
theorem l_Sheet_skipBlanks_2 {L : Nat} {xs : Nat → Int32} {Q : Option Value → ab_H → Prop} {v0 : Nat} {v2 : Int32} {v3 : Int32} {g : g_S} {r : Int32} (e : L_Sheet_skipBlanks_2 v0 v2 v3 g = some r) (c : cL_Sheet_skipBlanks_2 L xs Q v0 v2 g (.inr r)) : wp (ab_ext L xs) J_Sheet_skipBlanks 2 [(0, .ref v0), (2, .int v2), (3, .int v3)] [] (hp g) Q :=
  it_wp (P := fun s : Int32 => wp (ab_ext L xs) J_Sheet_skipBlanks 2 [(0, .ref v0), (2, .int v2), (3, .int s)] [] (hp g) Q) (E := fun r => cL_Sheet_skipBlanks_2 L xs Q v0 v2 g (.inr r)) (fun s out e c => y_Sheet_skipBlanks_2 e (by cases out <;> exact c)) e c
theorem L_Sheet_skipBlanks_2_eq (v0 : Nat) (v2 : Int32) (v3 : Int32) (g : g_S) : L_Sheet_skipBlanks_2 v0 v2 v3 g = itc (b_Sheet_skipBlanks_2 v0 v2 v3 g) (fun s => L_Sheet_skipBlanks_2 v0 v2 s g) := it_eq2 (fun s : Int32 => b_Sheet_skipBlanks_2 v0 v2 s g) (v3)
noncomputable def M_Sheet_skipBlanks (v0 : Nat) (v1 : Int32) (v2 : Int32) (g : g_S) : Option Int32 :=
  (L_Sheet_skipBlanks_2 v0 v2 v1 g).bind <| fun z3 =>
  some z3
set_option maxRecDepth 20000 in
theorem d_Sheet_skipBlanks {L : Nat} {xs : Nat → Int32} {Q : Option Value → ab_H → Prop} {v0 : Nat} {v1 : Int32} {v2 : Int32} {g : g_S} {out : Int32} (e : M_Sheet_skipBlanks v0 v1 v2 g = some out) (c : Q (some (.int out)) (hp g)) : mw (ab_ext L xs) J_Sheet_skipBlanks [.ref v0, .int v1, .int v2] (hp g) Q := by
  unfold M_Sheet_skipBlanks at e
  refine wp_p (j := J_Sheet_skipBlanks) 2 (pc' := 2) (lv' := [(3, .int v1), (0, .ref v0), (1, .int v1), (2, .int v2)]) (st' := []) rfl ?_
  obtain ⟨z3, h2, e⟩ := bd e
  refine wp_lv (lv' := [(0, .ref v0), (2, .int v2), (3, .int v1)]) rfl ⟨rfl, rfl, rfl, trivial⟩ ?_
  refine l_Sheet_skipBlanks_2 h2 ?_
  show wp (ab_ext L xs) J_Sheet_skipBlanks 22 [(3, .int z3)] [] (hp g) Q
  refine wp_p (j := J_Sheet_skipBlanks) 1 (pc' := 23) (lv' := [(3, .int z3)]) (st' := [.int z3]) rfl ?_
  have e := Option.some.inj e; subst e; exact wp_iret (ty := .int) rfl rfl rfl c
def cL_Sheet_readSelector_22 (L : Nat) (xs : Nat → Int32) (Q : Option Value → ab_H → Prop) (v0 : Nat) (v1 : Nat) (v3 : Int32) (v4 : Int32) (out : (Int32 × Int32 × g_S) ⊕ ((Int32 × g_S) ⊕ (g_S) ⊕ (Int32 × g_S) ⊕ (Int32 × g_S))) : Prop := match out with
  | .inl s => wp (ab_ext L xs) J_Sheet_readSelector 22 [(0, .ref v0), (1, .ref v1), (3, .int v3), (4, .int v4), (5, .int s.1), (6, .int s.2.1)] [] (hp s.2.2) Q
  | .inr (.inl s) => wp (ab_ext L xs) J_Sheet_readSelector 45 [(7, .int s.1)] [] (hp s.2) Q
  | .inr (.inr (.inl s)) => wp (ab_ext L xs) J_Sheet_readSelector 56 [] [] (hp s) Q
  | .inr (.inr (.inr (.inl s))) => wp (ab_ext L xs) J_Sheet_readSelector 74 [(7, .int s.1)] [] (hp s.2) Q
  | .inr (.inr (.inr (.inr s))) => wp (ab_ext L xs) J_Sheet_readSelector 92 [(5, .int s.1)] [] (hp s.2) Q
noncomputable def b_Sheet_readSelector_22 (v0 : Nat) (v1 : Nat) (v3 : Int32) (v4 : Int32) (v5 : Int32) (v6 : Int32) (g : g_S) : Option ((Int32 × Int32 × g_S) ⊕ ((Int32 × g_S) ⊕ (g_S) ⊕ (Int32 × g_S) ⊕ (Int32 × g_S))) :=
  if v6 < 3 then
    c2 (vc g 109 v0 (M_Sheet_readPart v0 v1 v5 v3 v4 g)) fun z1 g2 =>
    if z1 < 0 then
      some (.inr (.inl (z1, g2)))
    else
      if z1 = v3 then
        some (.inr (.inr (.inl g2)))
      else
        (aI g2 1 v1 z1).bind fun z3 =>
        (M_Bytes_isBlank z3 g2).bind fun z4 =>
        if z4 = 0 then
          some (.inr (.inr (.inr (.inl (z1, g2)))))
        else
          if v6 = 2 then
            some (.inr (.inr (.inr (.inl (z1, g2)))))
          else
            (M_Sheet_skipBlanks v1 z1 v3 g2).bind fun z5 =>
            some (.inl (z5, v6 + 1, g2))
  else
    some (.inr (.inr (.inr (.inr (v5, g)))))
set_option maxRecDepth 20000 in
theorem y_Sheet_readSelector_22 {L : Nat} {xs : Nat → Int32} {Q : Option Value → ab_H → Prop} {v0 : Nat} {v1 : Nat} {v3 : Int32} {v4 : Int32} {v5 : Int32} {v6 : Int32} {g : g_S} {out : (Int32 × Int32 × g_S) ⊕ ((Int32 × g_S) ⊕ (g_S) ⊕ (Int32 × g_S) ⊕ (Int32 × g_S))} (e : b_Sheet_readSelector_22 v0 v1 v3 v4 v5 v6 g = some out) (c : cL_Sheet_readSelector_22 L xs Q v0 v1 v3 v4 out) : wp (ab_ext L xs) J_Sheet_readSelector 22 [(0, .ref v0), (1, .ref v1), (3, .int v3), (4, .int v4), (5, .int v5), (6, .int v6)] [] (hp g) Q := by
  unfold b_Sheet_readSelector_22 at e
  refine wp_p (j := J_Sheet_readSelector) 2 (pc' := 25) (lv' := [(0, .ref v0), (1, .ref v1), (3, .int v3), (4, .int v4), (5, .int v5), (6, .int v6)]) (st' := [.int 3, .int v6]) rfl ?_
  refine x_ge e rfl (fun e => ?_) (fun e => ?_)
  · refine wp_p (j := J_Sheet_readSelector) 5 (pc' := 35) (lv' := [(0, .ref v0), (1, .ref v1), (3, .int v3), (4, .int v4), (5, .int v5), (6, .int v6)]) (st' := [.int v4, .int v3, .int v5, .ref v1, .ref v0]) rfl ?_
    refine x_cv2 (As := [.ref v1, .int v5, .int v3, .int v4]) (rest := []) Value.int e rfl rfl rfl rfl rfl rfl (fun h => d_Sheet_readPart h ⟨rfl, rfl⟩) (fun z1 g2 e => ?_)
    refine wp_p (j := J_Sheet_readSelector) 2 (pc' := 42) (lv' := [(7, .int z1), (0, .ref v0), (1, .ref v1), (3, .int v3), (4, .int v4), (5, .int v5), (6, .int v6)]) (st' := [.int z1]) rfl ?_
    refine z_ge e rfl (fun e => ?_) (fun e => ?_)
    · have e := Option.some.inj e; subst e; exact wp_lv (lv' := [(7, .int z1)]) rfl ⟨rfl, trivial⟩ c
    · refine wp_p (j := J_Sheet_readSelector) 2 (pc' := 53) (lv' := [(7, .int z1), (0, .ref v0), (1, .ref v1), (3, .int v3), (4, .int v4), (5, .int v5), (6, .int v6)]) (st' := [.int v3, .int z1]) rfl ?_
      refine x_ne e rfl (fun e => ?_) (fun e => ?_)
      · have e := Option.some.inj e; subst e; exact wp_lv (lv' := []) rfl trivial c
      · refine wp_p (j := J_Sheet_readSelector) 2 (pc' := 61) (lv' := [(7, .int z1), (0, .ref v0), (1, .ref v1), (3, .int v3), (4, .int v4), (5, .int v5), (6, .int v6)]) (st' := [.int z1, .ref v1]) rfl ?_
        refine x_aB e rfl (.inl rfl) rfl (fun z3 e => ?_)
        refine x_cs1 (As := [.int z3]) (rest := []) Value.int e rfl rfl rfl rfl rfl (fun h => d_Bytes_isBlank h ⟨rfl, rfl⟩) (fun z4 e => ?_)
        refine z_eq e rfl (fun e => ?_) (fun e => ?_)
        · have e := Option.some.inj e; subst e; exact wp_lv (lv' := [(7, .int z1)]) rfl ⟨rfl, trivial⟩ c
        · refine wp_p (j := J_Sheet_readSelector) 2 (pc' := 71) (lv' := [(7, .int z1), (0, .ref v0), (1, .ref v1), (3, .int v3), (4, .int v4), (5, .int v5), (6, .int v6)]) (st' := [.int 2, .int v6]) rfl ?_
          refine x_ne e rfl (fun e => ?_) (fun e => ?_)
          · have e := Option.some.inj e; subst e; exact wp_lv (lv' := [(7, .int z1)]) rfl ⟨rfl, trivial⟩ c
          · refine wp_p (j := J_Sheet_readSelector) 3 (pc' := 81) (lv' := [(7, .int z1), (0, .ref v0), (1, .ref v1), (3, .int v3), (4, .int v4), (5, .int v5), (6, .int v6)]) (st' := [.int v3, .int z1, .ref v1]) rfl ?_
            refine x_cs1 (As := [.ref v1, .int z1, .int v3]) (rest := []) Value.int e rfl rfl rfl rfl rfl (fun h => d_Sheet_skipBlanks h ⟨rfl, rfl⟩) (fun z5 e => ?_)
            refine wp_p (j := J_Sheet_readSelector) 3 (pc' := 22) (lv' := [(6, .int (v6 + 1)), (5, .int z5), (7, .int z1), (0, .ref v0), (1, .ref v1), (3, .int v3), (4, .int v4)]) (st' := []) rfl ?_
            have e := Option.some.inj e; subst e; exact wp_lv (lv' := [(0, .ref v0), (1, .ref v1), (3, .int v3), (4, .int v4), (5, .int z5), (6, .int (v6 + 1))]) rfl ⟨rfl, rfl, rfl, rfl, rfl, rfl, trivial⟩ c
  · have e := Option.some.inj e; subst e; exact wp_lv (lv' := [(5, .int v5)]) rfl ⟨rfl, trivial⟩ c
noncomputable def L_Sheet_readSelector_22 (v0 : Nat) (v1 : Nat) (v3 : Int32) (v4 : Int32) (v5 : Int32) (v6 : Int32) (g : g_S) : Option ((Int32 × g_S) ⊕ (g_S) ⊕ (Int32 × g_S) ⊕ (Int32 × g_S)) := it (fun s : Int32 × Int32 × g_S => b_Sheet_readSelector_22 v0 v1 v3 v4 s.1 s.2.1 s.2.2) (v5, v6, g)
theorem l_Sheet_readSelector_22 {L : Nat} {xs : Nat → Int32} {Q : Option Value → ab_H → Prop} {v0 : Nat} {v1 : Nat} {v3 : Int32} {v4 : Int32} {v5 : Int32} {v6 : Int32} {g : g_S} {r : (Int32 × g_S) ⊕ (g_S) ⊕ (Int32 × g_S) ⊕ (Int32 × g_S)} (e : L_Sheet_readSelector_22 v0 v1 v3 v4 v5 v6 g = some r) (c : cL_Sheet_readSelector_22 L xs Q v0 v1 v3 v4 (.inr r)) : wp (ab_ext L xs) J_Sheet_readSelector 22 [(0, .ref v0), (1, .ref v1), (3, .int v3), (4, .int v4), (5, .int v5), (6, .int v6)] [] (hp g) Q :=
  it_wp (P := fun s : Int32 × Int32 × g_S => wp (ab_ext L xs) J_Sheet_readSelector 22 [(0, .ref v0), (1, .ref v1), (3, .int v3), (4, .int v4), (5, .int s.1), (6, .int s.2.1)] [] (hp s.2.2) Q) (E := fun r => cL_Sheet_readSelector_22 L xs Q v0 v1 v3 v4 (.inr r)) (fun s out e c => y_Sheet_readSelector_22 e (by cases out <;> exact c)) e c
theorem L_Sheet_readSelector_22_eq (v0 : Nat) (v1 : Nat) (v3 : Int32) (v4 : Int32) (v5 : Int32) (v6 : Int32) (g : g_S) : L_Sheet_readSelector_22 v0 v1 v3 v4 v5 v6 g = itc (b_Sheet_readSelector_22 v0 v1 v3 v4 v5 v6 g) (fun s => L_Sheet_readSelector_22 v0 v1 v3 v4 s.1 s.2.1 s.2.2) := it_eq2 (fun s : Int32 × Int32 × g_S => b_Sheet_readSelector_22 v0 v1 v3 v4 s.1 s.2.1 s.2.2) (v5, v6, g)
noncomputable def M_Sheet_readSelector (v0 : Nat) (v1 : Nat) (v2 : Int32) (v3 : Int32) (v4 : Int32) (g : g_S) : Option (Int32 × g_S) :=
  (rQ g 109 v0 1).bind fun z1 =>
  (sI g z1 v4 0).bind fun g2 =>
  (rQ g2 109 v0 2).bind fun z3 =>
  (sI g2 z3 v4 0).bind fun g4 =>
  (L_Sheet_readSelector_22 v0 v1 v3 v4 v2 0 g4).bind <|
    us (u2 fun z7 g8 =>
    some ((-1) - z7, g8))
    (us (fun g9 =>
    some ((-1), g9))
    (us (u2 fun z10 g11 =>
    some (z10, g11))
    (u2 fun z12 g13 =>
    some (z12, g13))))
set_option maxRecDepth 20000 in
theorem d_Sheet_readSelector {L : Nat} {xs : Nat → Int32} {Q : Option Value → ab_H → Prop} {v0 : Nat} {v1 : Nat} {v2 : Int32} {v3 : Int32} {v4 : Int32} {g : g_S} {out : Int32 × g_S} (e : M_Sheet_readSelector v0 v1 v2 v3 v4 g = some out) (c : Q (some (.int out.1)) (hp out.2)) : mw (ab_ext L xs) J_Sheet_readSelector [.ref v0, .ref v1, .int v2, .int v3, .int v4] (hp g) Q := by
  unfold M_Sheet_readSelector at e
  refine wp_p (j := J_Sheet_readSelector) 1 (pc' := 1) (lv' := [(0, .ref v0), (1, .ref v1), (2, .int v2), (3, .int v3), (4, .int v4)]) (st' := [.ref v0]) rfl ?_
  refine x_gQ e rfl rfl fd_9_1 rfl (fun z1 e => ?_)
  refine wp_p (j := J_Sheet_readSelector) 2 (pc' := 7) (lv' := [(0, .ref v0), (1, .ref v1), (2, .int v2), (3, .int v3), (4, .int v4)]) (st' := [.int 0, .int v4, .ref z1]) rfl ?_
  refine x_sI e rfl rfl (fun g2 e => ?_)
  refine wp_p (j := J_Sheet_readSelector) 1 (pc' := 9) (lv' := [(0, .ref v0), (1, .ref v1), (2, .int v2), (3, .int v3), (4, .int v4)]) (st' := [.ref v0]) rfl ?_
  refine x_gQ e rfl rfl fd_9_2 rfl (fun z3 e => ?_)
  refine wp_p (j := J_Sheet_readSelector) 2 (pc' := 15) (lv' := [(0, .ref v0), (1, .ref v1), (2, .int v2), (3, .int v3), (4, .int v4)]) (st' := [.int 0, .int v4, .ref z3]) rfl ?_
  refine x_sI e rfl rfl (fun g4 e => ?_)
  refine wp_p (j := J_Sheet_readSelector) 4 (pc' := 22) (lv' := [(6, .int 0), (5, .int v2), (0, .ref v0), (1, .ref v1), (2, .int v2), (3, .int v3), (4, .int v4)]) (st' := []) rfl ?_
  obtain ⟨s5, h6, e⟩ := bd e
  refine wp_lv (lv' := [(0, .ref v0), (1, .ref v1), (3, .int v3), (4, .int v4), (5, .int v2), (6, .int 0)]) rfl ⟨rfl, rfl, rfl, rfl, rfl, rfl, trivial⟩ ?_
  refine l_Sheet_readSelector_22 h6 ?_
  rcases s5 with ⟨z7, g8⟩ | g9 | ⟨z10, g11⟩ | ⟨z12, g13⟩
  · replace e := (u2_e (us_l e))
    show wp (ab_ext L xs) J_Sheet_readSelector 45 [(7, .int z7)] [] (hp g8) Q
    refine wp_p (j := J_Sheet_readSelector) 3 (pc' := 49) (lv' := [(7, .int z7)]) (st' := [.int ((-1) - z7)]) rfl ?_
    have e := Option.some.inj e; subst e; exact wp_iret (ty := .int) rfl rfl rfl c
  · replace e := (us_l (us_r e))
    show wp (ab_ext L xs) J_Sheet_readSelector 56 [] [] (hp g9) Q
    refine wp_p (j := J_Sheet_readSelector) 1 (pc' := 57) (lv' := []) (st' := [.int (-1)]) rfl ?_
    have e := Option.some.inj e; subst e; exact wp_iret (ty := .int) rfl rfl rfl c
  · replace e := (u2_e (us_l (us_r (us_r e))))
    show wp (ab_ext L xs) J_Sheet_readSelector 74 [(7, .int z10)] [] (hp g11) Q
    refine wp_p (j := J_Sheet_readSelector) 1 (pc' := 76) (lv' := [(7, .int z10)]) (st' := [.int z10]) rfl ?_
    have e := Option.some.inj e; subst e; exact wp_iret (ty := .int) rfl rfl rfl c
  · replace e := (u2_e (us_r (us_r (us_r e))))
    show wp (ab_ext L xs) J_Sheet_readSelector 92 [(5, .int z12)] [] (hp g13) Q
    refine wp_p (j := J_Sheet_readSelector) 1 (pc' := 94) (lv' := [(5, .int z12)]) (st' := [.int z12]) rfl ?_
    have e := Option.some.inj e; subst e; exact wp_iret (ty := .int) rfl rfl rfl c
def cL_Sheet_hasWord_13 (L : Nat) (xs : Nat → Int32) (Q : Option Value → ab_H → Prop) (v0 : Nat) (v1 : Int64) (v3 : Int32) (g : g_S) (out : (Int32) ⊕ (Int32)) : Prop := match out with
  | .inl s => wp (ab_ext L xs) J_Sheet_hasWord 13 [(0, .ref v0), (1, .long v1), (3, .int v3), (4, .int s)] [] (hp g) Q
  | .inr s => wp (ab_ext L xs) J_Sheet_hasWord 41 [(0, .ref v0), (1, .long v1), (3, .int v3), (4, .int s)] [] (hp g) Q
noncomputable def b_Sheet_hasWord_13 (v0 : Nat) (v1 : Int64) (v3 : Int32) (v4 : Int32) (g : g_S) : Option ((Int32) ⊕ (Int32)) :=
  (rI g 104 v0 2).bind fun z1 =>
  if v4 < z1 then
    (rQ g 104 v0 1).bind fun z2 =>
    (aI g 1 z2 v4).bind fun z3 =>
    (M_Bytes_isBlank z3 g).bind fun z4 =>
    if z4 = 0 then
      some (.inl (v4 + 1))
    else
      some (.inr v4)
  else
    some (.inr v4)
set_option maxRecDepth 20000 in
theorem y_Sheet_hasWord_13 {L : Nat} {xs : Nat → Int32} {Q : Option Value → ab_H → Prop} {v0 : Nat} {v1 : Int64} {v3 : Int32} {v4 : Int32} {g : g_S} {out : (Int32) ⊕ (Int32)} (e : b_Sheet_hasWord_13 v0 v1 v3 v4 g = some out) (c : cL_Sheet_hasWord_13 L xs Q v0 v1 v3 g out) : wp (ab_ext L xs) J_Sheet_hasWord 13 [(0, .ref v0), (1, .long v1), (3, .int v3), (4, .int v4)] [] (hp g) Q := by
  unfold b_Sheet_hasWord_13 at e
  refine wp_p (j := J_Sheet_hasWord) 2 (pc' := 16) (lv' := [(0, .ref v0), (1, .long v1), (3, .int v3), (4, .int v4)]) (st' := [.ref v0, .int v4]) rfl ?_
  refine x_gI e rfl rfl fd_4_2 rfl (fun z1 e => ?_)
  refine x_ge e rfl (fun e => ?_) (fun e => ?_)
  · refine wp_p (j := J_Sheet_hasWord) 1 (pc' := 23) (lv' := [(0, .ref v0), (1, .long v1), (3, .int v3), (4, .int v4)]) (st' := [.ref v0]) rfl ?_
    refine x_gQ e rfl rfl fd_4_1 rfl (fun z2 e => ?_)
    refine wp_p (j := J_Sheet_hasWord) 1 (pc' := 28) (lv' := [(0, .ref v0), (1, .long v1), (3, .int v3), (4, .int v4)]) (st' := [.int v4, .ref z2]) rfl ?_
    refine x_aB e rfl (.inl rfl) rfl (fun z3 e => ?_)
    refine x_cs1 (As := [.int z3]) (rest := []) Value.int e rfl rfl rfl rfl rfl (fun h => d_Bytes_isBlank h ⟨rfl, rfl⟩) (fun z4 e => ?_)
    refine z_ne e rfl (fun e => ?_) (fun e => ?_)
    · refine wp_p (j := J_Sheet_hasWord) 2 (pc' := 13) (lv' := [(4, .int (v4 + 1)), (0, .ref v0), (1, .long v1), (3, .int v3)]) (st' := []) rfl ?_
      have e := Option.some.inj e; subst e; exact wp_lv (lv' := [(0, .ref v0), (1, .long v1), (3, .int v3), (4, .int (v4 + 1))]) rfl ⟨rfl, rfl, rfl, rfl, trivial⟩ c
    · have e := Option.some.inj e; subst e; exact wp_lv (lv' := [(0, .ref v0), (1, .long v1), (3, .int v3), (4, .int v4)]) rfl ⟨rfl, rfl, rfl, rfl, trivial⟩ c
  · have e := Option.some.inj e; subst e; exact wp_lv (lv' := [(0, .ref v0), (1, .long v1), (3, .int v3), (4, .int v4)]) rfl ⟨rfl, rfl, rfl, rfl, trivial⟩ c
noncomputable def L_Sheet_hasWord_13 (v0 : Nat) (v1 : Int64) (v3 : Int32) (v4 : Int32) (g : g_S) : Option (Int32) := it (fun s : Int32 => b_Sheet_hasWord_13 v0 v1 v3 s g) (v4)
theorem l_Sheet_hasWord_13 {L : Nat} {xs : Nat → Int32} {Q : Option Value → ab_H → Prop} {v0 : Nat} {v1 : Int64} {v3 : Int32} {v4 : Int32} {g : g_S} {r : Int32} (e : L_Sheet_hasWord_13 v0 v1 v3 v4 g = some r) (c : cL_Sheet_hasWord_13 L xs Q v0 v1 v3 g (.inr r)) : wp (ab_ext L xs) J_Sheet_hasWord 13 [(0, .ref v0), (1, .long v1), (3, .int v3), (4, .int v4)] [] (hp g) Q :=
  it_wp (P := fun s : Int32 => wp (ab_ext L xs) J_Sheet_hasWord 13 [(0, .ref v0), (1, .long v1), (3, .int v3), (4, .int s)] [] (hp g) Q) (E := fun r => cL_Sheet_hasWord_13 L xs Q v0 v1 v3 g (.inr r)) (fun s out e c => y_Sheet_hasWord_13 e (by cases out <;> exact c)) e c
theorem L_Sheet_hasWord_13_eq (v0 : Nat) (v1 : Int64) (v3 : Int32) (v4 : Int32) (g : g_S) : L_Sheet_hasWord_13 v0 v1 v3 v4 g = itc (b_Sheet_hasWord_13 v0 v1 v3 v4 g) (fun s => L_Sheet_hasWord_13 v0 v1 v3 s g) := it_eq2 (fun s : Int32 => b_Sheet_hasWord_13 v0 v1 v3 s g) (v4)
def cL_Sheet_hasWord_2 (L : Nat) (xs : Nat → Int32) (Q : Option Value → ab_H → Prop) (v0 : Nat) (v1 : Int64) (g : g_S) (out : (Int32) ⊕ ((Unit) ⊕ (Unit))) : Prop := match out with
  | .inl s => wp (ab_ext L xs) J_Sheet_hasWord 2 [(0, .ref v0), (1, .long v1), (3, .int s)] [] (hp g) Q
  | .inr (.inl s) => wp (ab_ext L xs) J_Sheet_hasWord 65 [] [] (hp g) Q
  | .inr (.inr s) => wp (ab_ext L xs) J_Sheet_hasWord 75 [] [] (hp g) Q
noncomputable def k_Sheet_hasWord_67 (v0 : Nat) (v1 : Int64) (v4 : Int32) (g : g_S) : Option ((Int32) ⊕ ((Unit) ⊕ (Unit))) :=
  some (.inl (v4 + 1))
set_option maxRecDepth 20000 in
theorem x_Sheet_hasWord_67 {L : Nat} {xs : Nat → Int32} {Q : Option Value → ab_H → Prop} {v0 : Nat} {v1 : Int64} {v4 : Int32} {g : g_S} {out : (Int32) ⊕ ((Unit) ⊕ (Unit))} (e : k_Sheet_hasWord_67 v0 v1 v4 g = some out) (c : cL_Sheet_hasWord_2 L xs Q v0 v1 g out) : wp (ab_ext L xs) J_Sheet_hasWord 67 [(0, .ref v0), (1, .long v1), (4, .int v4)] [] (hp g) Q := by
  unfold k_Sheet_hasWord_67 at e
  refine wp_p (j := J_Sheet_hasWord) 5 (pc' := 2) (lv' := [(3, .int (v4 + 1)), (0, .ref v0), (1, .long v1), (4, .int v4)]) (st' := []) rfl ?_
  have e := Option.some.inj e; subst e; exact wp_lv (lv' := [(0, .ref v0), (1, .long v1), (3, .int (v4 + 1))]) rfl ⟨rfl, rfl, rfl, trivial⟩ c
noncomputable def k_Sheet_hasWord_41 (v0 : Nat) (v1 : Int64) (v3 : Int32) (v4 : Int32) (g : g_S) : Option ((Int32) ⊕ ((Unit) ⊕ (Unit))) :=
  if 8 < (v4 - v3) then
    k_Sheet_hasWord_67 v0 v1 v4 g
  else
    (rQ g 104 v0 1).bind fun z1 =>
    (M_Bytes_pack z1 v3 v4 g).bind fun z2 =>
    if (lg_cmp z2 v1) = 0 then
      some (.inr (.inl ()))
    else
      k_Sheet_hasWord_67 v0 v1 v4 g
set_option maxRecDepth 20000 in
theorem x_Sheet_hasWord_41 {L : Nat} {xs : Nat → Int32} {Q : Option Value → ab_H → Prop} {v0 : Nat} {v1 : Int64} {v3 : Int32} {v4 : Int32} {g : g_S} {out : (Int32) ⊕ ((Unit) ⊕ (Unit))} (e : k_Sheet_hasWord_41 v0 v1 v3 v4 g = some out) (c : cL_Sheet_hasWord_2 L xs Q v0 v1 g out) : wp (ab_ext L xs) J_Sheet_hasWord 41 [(0, .ref v0), (1, .long v1), (3, .int v3), (4, .int v4)] [] (hp g) Q := by
  unfold k_Sheet_hasWord_41 at e
  refine wp_p (j := J_Sheet_hasWord) 4 (pc' := 47) (lv' := [(0, .ref v0), (1, .long v1), (3, .int v3), (4, .int v4)]) (st' := [.int 8, .int (v4 - v3)]) rfl ?_
  refine x_gt e rfl (fun e => ?_) (fun e => ?_)
  · exact wp_lv (lv' := [(0, .ref v0), (1, .long v1), (4, .int v4)]) rfl ⟨rfl, rfl, rfl, trivial⟩ (x_Sheet_hasWord_67 e c)
  · refine wp_p (j := J_Sheet_hasWord) 1 (pc' := 51) (lv' := [(0, .ref v0), (1, .long v1), (3, .int v3), (4, .int v4)]) (st' := [.ref v0]) rfl ?_
    refine x_gQ e rfl rfl fd_4_1 rfl (fun z1 e => ?_)
    refine wp_p (j := J_Sheet_hasWord) 2 (pc' := 57) (lv' := [(0, .ref v0), (1, .long v1), (3, .int v3), (4, .int v4)]) (st' := [.int v4, .int v3, .ref z1]) rfl ?_
    refine x_cs1 (As := [.ref z1, .int v3, .int v4]) (rest := []) Value.long e rfl rfl rfl rfl rfl (fun h => d_Bytes_pack h ⟨rfl, rfl⟩) (fun z2 e => ?_)
    refine wp_p (j := J_Sheet_hasWord) 2 (pc' := 62) (lv' := [(0, .ref v0), (1, .long v1), (3, .int v3), (4, .int v4)]) (st' := [.int (lg_cmp z2 v1)]) rfl ?_
    refine z_ne e rfl (fun e => ?_) (fun e => ?_)
    · have e := Option.some.inj e; subst e; exact wp_lv (lv' := []) rfl trivial c
    · exact wp_lv (lv' := [(0, .ref v0), (1, .long v1), (4, .int v4)]) rfl ⟨rfl, rfl, rfl, trivial⟩ (x_Sheet_hasWord_67 e c)
noncomputable def b_Sheet_hasWord_2 (v0 : Nat) (v1 : Int64) (v3 : Int32) (g : g_S) : Option ((Int32) ⊕ ((Unit) ⊕ (Unit))) :=
  (rI g 104 v0 2).bind fun z1 =>
  if v3 < z1 then
    (L_Sheet_hasWord_13 v0 v1 v3 v3 g).bind <| fun z4 =>
    k_Sheet_hasWord_41 v0 v1 v3 z4 g
  else
    some (.inr (.inr ()))
set_option maxRecDepth 20000 in
theorem y_Sheet_hasWord_2 {L : Nat} {xs : Nat → Int32} {Q : Option Value → ab_H → Prop} {v0 : Nat} {v1 : Int64} {v3 : Int32} {g : g_S} {out : (Int32) ⊕ ((Unit) ⊕ (Unit))} (e : b_Sheet_hasWord_2 v0 v1 v3 g = some out) (c : cL_Sheet_hasWord_2 L xs Q v0 v1 g out) : wp (ab_ext L xs) J_Sheet_hasWord 2 [(0, .ref v0), (1, .long v1), (3, .int v3)] [] (hp g) Q := by
  unfold b_Sheet_hasWord_2 at e
  refine wp_p (j := J_Sheet_hasWord) 2 (pc' := 4) (lv' := [(0, .ref v0), (1, .long v1), (3, .int v3)]) (st' := [.ref v0, .int v3]) rfl ?_
  refine x_gI e rfl rfl fd_4_2 rfl (fun z1 e => ?_)
  refine x_ge e rfl (fun e => ?_) (fun e => ?_)
  · refine wp_p (j := J_Sheet_hasWord) 2 (pc' := 13) (lv' := [(4, .int v3), (0, .ref v0), (1, .long v1), (3, .int v3)]) (st' := []) rfl ?_
    obtain ⟨z4, h3, e⟩ := bd e
    refine wp_lv (lv' := [(0, .ref v0), (1, .long v1), (3, .int v3), (4, .int v3)]) rfl ⟨rfl, rfl, rfl, rfl, trivial⟩ ?_
    refine l_Sheet_hasWord_13 h3 ?_
    show wp (ab_ext L xs) J_Sheet_hasWord 41 [(0, .ref v0), (1, .long v1), (3, .int v3), (4, .int z4)] [] (hp g) Q
    exact wp_lv (lv' := [(0, .ref v0), (1, .long v1), (3, .int v3), (4, .int z4)]) rfl ⟨rfl, rfl, rfl, rfl, trivial⟩ (x_Sheet_hasWord_41 e c)
  · have e := Option.some.inj e; subst e; exact wp_lv (lv' := []) rfl trivial c
noncomputable def L_Sheet_hasWord_2 (v0 : Nat) (v1 : Int64) (v3 : Int32) (g : g_S) : Option ((Unit) ⊕ (Unit)) := it (fun s : Int32 => b_Sheet_hasWord_2 v0 v1 s g) (v3)
theorem l_Sheet_hasWord_2 {L : Nat} {xs : Nat → Int32} {Q : Option Value → ab_H → Prop} {v0 : Nat} {v1 : Int64} {v3 : Int32} {g : g_S} {r : (Unit) ⊕ (Unit)} (e : L_Sheet_hasWord_2 v0 v1 v3 g = some r) (c : cL_Sheet_hasWord_2 L xs Q v0 v1 g (.inr r)) : wp (ab_ext L xs) J_Sheet_hasWord 2 [(0, .ref v0), (1, .long v1), (3, .int v3)] [] (hp g) Q :=
  it_wp (P := fun s : Int32 => wp (ab_ext L xs) J_Sheet_hasWord 2 [(0, .ref v0), (1, .long v1), (3, .int s)] [] (hp g) Q) (E := fun r => cL_Sheet_hasWord_2 L xs Q v0 v1 g (.inr r)) (fun s out e c => y_Sheet_hasWord_2 e (by cases out <;> exact c)) e c
theorem L_Sheet_hasWord_2_eq (v0 : Nat) (v1 : Int64) (v3 : Int32) (g : g_S) : L_Sheet_hasWord_2 v0 v1 v3 g = itc (b_Sheet_hasWord_2 v0 v1 v3 g) (fun s => L_Sheet_hasWord_2 v0 v1 s g) := it_eq2 (fun s : Int32 => b_Sheet_hasWord_2 v0 v1 s g) (v3)
noncomputable def M_Sheet_hasWord (v0 : Nat) (v1 : Int64) (g : g_S) : Option Int32 :=
  (L_Sheet_hasWord_2 v0 v1 0 g).bind <|
    us (fun _ =>
    some 1)
    (fun _ =>
    some 0)
set_option maxRecDepth 20000 in
theorem d_Sheet_hasWord {L : Nat} {xs : Nat → Int32} {Q : Option Value → ab_H → Prop} {v0 : Nat} {v1 : Int64} {g : g_S} {out : Int32} (e : M_Sheet_hasWord v0 v1 g = some out) (c : Q (some (.int out)) (hp g)) : mw (ab_ext L xs) J_Sheet_hasWord [.ref v0, .long v1] (hp g) Q := by
  unfold M_Sheet_hasWord at e
  refine wp_p (j := J_Sheet_hasWord) 2 (pc' := 2) (lv' := [(3, .int 0), (0, .ref v0), (1, .long v1)]) (st' := []) rfl ?_
  obtain ⟨s1, h2, e⟩ := bd e
  refine wp_lv (lv' := [(0, .ref v0), (1, .long v1), (3, .int 0)]) rfl ⟨rfl, rfl, rfl, trivial⟩ ?_
  refine l_Sheet_hasWord_2 h2 ?_
  rcases s1 with _ | _
  · replace e := (us_l e)
    show wp (ab_ext L xs) J_Sheet_hasWord 65 [] [] (hp g) Q
    refine wp_p (j := J_Sheet_hasWord) 1 (pc' := 66) (lv' := []) (st' := [.int 1]) rfl ?_
    have e := Option.some.inj e; subst e; exact wp_iret (ty := .boolean) rfl rfl (by decide) c
  · replace e := (us_r e)
    show wp (ab_ext L xs) J_Sheet_hasWord 75 [] [] (hp g) Q
    refine wp_p (j := J_Sheet_hasWord) 1 (pc' := 76) (lv' := []) (st' := [.int 0]) rfl ?_
    have e := Option.some.inj e; subst e; exact wp_iret (ty := .boolean) rfl rfl (by decide) c
def cL_Sheet_isPartMatch_31 (L : Nat) (xs : Nat → Int32) (Q : Option Value → ab_H → Prop) (v0 : Nat) (v1 : Int32) (v2 : Nat) (g : g_S) (out : (Int32) ⊕ ((Unit) ⊕ (Unit) ⊕ (Unit) ⊕ (Unit))) : Prop := match out with
  | .inl s => wp (ab_ext L xs) J_Sheet_isPartMatch 31 [(0, .ref v0), (1, .int v1), (2, .ref v2), (3, .int s)] [] (hp g) Q
  | .inr (.inl s) => wp (ab_ext L xs) J_Sheet_isPartMatch 76 [] [] (hp g) Q
  | .inr (.inr (.inl s)) => wp (ab_ext L xs) J_Sheet_isPartMatch 102 [] [] (hp g) Q
  | .inr (.inr (.inr (.inl s))) => wp (ab_ext L xs) J_Sheet_isPartMatch 119 [] [] (hp g) Q
  | .inr (.inr (.inr (.inr s))) => wp (ab_ext L xs) J_Sheet_isPartMatch 127 [] [] (hp g) Q
noncomputable def k_Sheet_isPartMatch_66 (v0 : Nat) (v1 : Int32) (v2 : Nat) (v3 : Int32) (w0 : Int64) (w1 : Nat) (g : g_S) : Option ((Int32) ⊕ ((Unit) ⊕ (Unit) ⊕ (Unit) ⊕ (Unit))) :=
  (vc g 107 w1 (M_Node_find w1 w0 g)).bind fun z1 =>
  oc z1
    (fun q2 =>
    (rQ g 109 v0 7).bind fun z3 =>
    (aI g 2 z3 v3).bind fun z4 =>
    if z4 = 0 then
      (rQ g 109 v0 6).bind fun z5 =>
      (aL g z5 v3).bind fun z6 =>
      (M_Sheet_hasWord q2 z6 g).bind fun z7 =>
      if z7 = 0 then
        some (.inr (.inr (.inr (.inl ()))))
      else
        some (.inl (v3 + 1))
    else
      (vc g 104 q2 (M_Bytes_packed q2 g)).bind fun z8 =>
      (rQ g 109 v0 6).bind fun z9 =>
      (aL g z9 v3).bind fun z10 =>
      if (lg_cmp z8 z10) = 0 then
        some (.inl (v3 + 1))
      else
        some (.inr (.inr (.inl ()))))
    (
    some (.inr (.inl ())))
set_option maxRecDepth 20000 in
theorem x_Sheet_isPartMatch_66 {L : Nat} {xs : Nat → Int32} {Q : Option Value → ab_H → Prop} {v0 : Nat} {v1 : Int32} {v2 : Nat} {v3 : Int32} {w0 : Int64} {w1 : Nat} {g : g_S} {out : (Int32) ⊕ ((Unit) ⊕ (Unit) ⊕ (Unit) ⊕ (Unit))} (e : k_Sheet_isPartMatch_66 v0 v1 v2 v3 w0 w1 g = some out) (c : cL_Sheet_isPartMatch_31 L xs Q v0 v1 v2 g out) : wp (ab_ext L xs) J_Sheet_isPartMatch 66 [(0, .ref v0), (1, .int v1), (2, .ref v2), (3, .int v3)] [.long w0, .ref w1] (hp g) Q := by
  unfold k_Sheet_isPartMatch_66 at e
  refine x_cv1 (As := [.long w0]) (rest := []) va_rf e rfl rfl rfl rfl rfl rfl (fun h => d_Node_find h ⟨rfl, rfl⟩) (fun z1 e => ?_)
  rcases z1 with _ | q2
  · replace e := oc_n e
    show wp (ab_ext L xs) J_Sheet_isPartMatch 69 [(0, .ref v0), (1, .int v1), (2, .ref v2), (3, .int v3)] [.null] (hp g) Q
    refine wp_p (j := J_Sheet_isPartMatch) 2 (pc' := 73) (lv' := [(4, .null), (0, .ref v0), (1, .int v1), (2, .ref v2), (3, .int v3)]) (st' := [.null]) rfl ?_
    refine wp_b (pc' := 76) (st' := []) rfl rfl rfl ?_
    have e := Option.some.inj e; subst e; exact wp_lv (lv' := []) rfl trivial c
  · replace e := oc_s e
    show wp (ab_ext L xs) J_Sheet_isPartMatch 69 [(0, .ref v0), (1, .int v1), (2, .ref v2), (3, .int v3)] [.ref q2] (hp g) Q
    refine wp_p (j := J_Sheet_isPartMatch) 2 (pc' := 73) (lv' := [(4, .ref q2), (0, .ref v0), (1, .int v1), (2, .ref v2), (3, .int v3)]) (st' := [.ref q2]) rfl ?_
    refine wp_b (pc' := 78) (st' := []) rfl rfl rfl ?_
    refine wp_p (j := J_Sheet_isPartMatch) 1 (pc' := 79) (lv' := [(4, .ref q2), (0, .ref v0), (1, .int v1), (2, .ref v2), (3, .int v3)]) (st' := [.ref v0]) rfl ?_
    refine x_gQ e rfl rfl fd_9_7 rfl (fun z3 e => ?_)
    refine wp_p (j := J_Sheet_isPartMatch) 1 (pc' := 83) (lv' := [(4, .ref q2), (0, .ref v0), (1, .int v1), (2, .ref v2), (3, .int v3)]) (st' := [.int v3, .ref z3]) rfl ?_
    refine x_aB e rfl (.inr rfl) rfl (fun z4 e => ?_)
    refine z_eq e rfl (fun e => ?_) (fun e => ?_)
    · refine wp_p (j := J_Sheet_isPartMatch) 2 (pc' := 108) (lv' := [(4, .ref q2), (0, .ref v0), (1, .int v1), (2, .ref v2), (3, .int v3)]) (st' := [.ref v0, .ref q2]) rfl ?_
      refine x_gQ e rfl rfl fd_9_6 rfl (fun z5 e => ?_)
      refine wp_p (j := J_Sheet_isPartMatch) 1 (pc' := 112) (lv' := [(4, .ref q2), (0, .ref v0), (1, .int v1), (2, .ref v2), (3, .int v3)]) (st' := [.int v3, .ref z5, .ref q2]) rfl ?_
      refine x_aL e rfl rfl (fun z6 e => ?_)
      refine x_cs1 (As := [.ref q2, .long z6]) (rest := []) Value.int e rfl rfl rfl rfl rfl (fun h => d_Sheet_hasWord h ⟨rfl, rfl⟩) (fun z7 e => ?_)
      refine z_ne e rfl (fun e => ?_) (fun e => ?_)
      · have e := Option.some.inj e; subst e; exact wp_lv (lv' := []) rfl trivial c
      · refine wp_p (j := J_Sheet_isPartMatch) 2 (pc' := 31) (lv' := [(3, .int (v3 + 1)), (4, .ref q2), (0, .ref v0), (1, .int v1), (2, .ref v2)]) (st' := []) rfl ?_
        have e := Option.some.inj e; subst e; exact wp_lv (lv' := [(0, .ref v0), (1, .int v1), (2, .ref v2), (3, .int (v3 + 1))]) rfl ⟨rfl, rfl, rfl, rfl, trivial⟩ c
    · refine wp_p (j := J_Sheet_isPartMatch) 1 (pc' := 89) (lv' := [(4, .ref q2), (0, .ref v0), (1, .int v1), (2, .ref v2), (3, .int v3)]) (st' := [.ref q2]) rfl ?_
      refine x_cv1 (As := []) (rest := []) Value.long e rfl rfl rfl rfl rfl rfl (fun h => d_Bytes_packed h ⟨rfl, rfl⟩) (fun z8 e => ?_)
      refine wp_p (j := J_Sheet_isPartMatch) 1 (pc' := 93) (lv' := [(4, .ref q2), (0, .ref v0), (1, .int v1), (2, .ref v2), (3, .int v3)]) (st' := [.ref v0, .long z8]) rfl ?_
      refine x_gQ e rfl rfl fd_9_6 rfl (fun z9 e => ?_)
      refine wp_p (j := J_Sheet_isPartMatch) 1 (pc' := 97) (lv' := [(4, .ref q2), (0, .ref v0), (1, .int v1), (2, .ref v2), (3, .int v3)]) (st' := [.int v3, .ref z9, .long z8]) rfl ?_
      refine x_aL e rfl rfl (fun z10 e => ?_)
      refine wp_p (j := J_Sheet_isPartMatch) 1 (pc' := 99) (lv' := [(4, .ref q2), (0, .ref v0), (1, .int v1), (2, .ref v2), (3, .int v3)]) (st' := [.int (lg_cmp z8 z10)]) rfl ?_
      refine z_eq e rfl (fun e => ?_) (fun e => ?_)
      · refine wp_p (j := J_Sheet_isPartMatch) 2 (pc' := 31) (lv' := [(3, .int (v3 + 1)), (4, .ref q2), (0, .ref v0), (1, .int v1), (2, .ref v2)]) (st' := []) rfl ?_
        have e := Option.some.inj e; subst e; exact wp_lv (lv' := [(0, .ref v0), (1, .int v1), (2, .ref v2), (3, .int (v3 + 1))]) rfl ⟨rfl, rfl, rfl, rfl, trivial⟩ c
      · have e := Option.some.inj e; subst e; exact wp_lv (lv' := []) rfl trivial c
noncomputable def b_Sheet_isPartMatch_31 (v0 : Nat) (v1 : Int32) (v2 : Nat) (v3 : Int32) (g : g_S) : Option ((Int32) ⊕ ((Unit) ⊕ (Unit) ⊕ (Unit) ⊕ (Unit))) :=
  (rQ g 109 v0 5).bind fun z1 =>
  (aI g 0 z1 v1).bind fun z2 =>
  if v3 < ((v1 * 4) + z2) then
    (rQ g 109 v0 7).bind fun z3 =>
    (aI g 2 z3 v3).bind fun z4 =>
    if z4 = 0 then
      (rL g 109 v0 12).bind fun z5 =>
      k_Sheet_isPartMatch_66 v0 v1 v2 v3 z5 v2 g
    else
      (rL g 109 v0 11).bind fun z6 =>
      k_Sheet_isPartMatch_66 v0 v1 v2 v3 z6 v2 g
  else
    some (.inr (.inr (.inr (.inr ()))))
set_option maxRecDepth 20000 in
theorem y_Sheet_isPartMatch_31 {L : Nat} {xs : Nat → Int32} {Q : Option Value → ab_H → Prop} {v0 : Nat} {v1 : Int32} {v2 : Nat} {v3 : Int32} {g : g_S} {out : (Int32) ⊕ ((Unit) ⊕ (Unit) ⊕ (Unit) ⊕ (Unit))} (e : b_Sheet_isPartMatch_31 v0 v1 v2 v3 g = some out) (c : cL_Sheet_isPartMatch_31 L xs Q v0 v1 v2 g out) : wp (ab_ext L xs) J_Sheet_isPartMatch 31 [(0, .ref v0), (1, .int v1), (2, .ref v2), (3, .int v3)] [] (hp g) Q := by
  unfold b_Sheet_isPartMatch_31 at e
  refine wp_p (j := J_Sheet_isPartMatch) 5 (pc' := 36) (lv' := [(0, .ref v0), (1, .int v1), (2, .ref v2), (3, .int v3)]) (st' := [.ref v0, .int (v1 * 4), .int v3]) rfl ?_
  refine x_gQ e rfl rfl fd_9_5 rfl (fun z1 e => ?_)
  refine wp_p (j := J_Sheet_isPartMatch) 1 (pc' := 40) (lv' := [(0, .ref v0), (1, .int v1), (2, .ref v2), (3, .int v3)]) (st' := [.int v1, .ref z1, .int (v1 * 4), .int v3]) rfl ?_
  refine x_aI e rfl rfl (fun z2 e => ?_)
  refine wp_p (j := J_Sheet_isPartMatch) 1 (pc' := 42) (lv' := [(0, .ref v0), (1, .int v1), (2, .ref v2), (3, .int v3)]) (st' := [.int ((v1 * 4) + z2), .int v3]) rfl ?_
  refine x_ge e rfl (fun e => ?_) (fun e => ?_)
  · refine wp_p (j := J_Sheet_isPartMatch) 2 (pc' := 47) (lv' := [(0, .ref v0), (1, .int v1), (2, .ref v2), (3, .int v3)]) (st' := [.ref v0, .ref v2]) rfl ?_
    refine x_gQ e rfl rfl fd_9_7 rfl (fun z3 e => ?_)
    refine wp_p (j := J_Sheet_isPartMatch) 1 (pc' := 51) (lv' := [(0, .ref v0), (1, .int v1), (2, .ref v2), (3, .int v3)]) (st' := [.int v3, .ref z3, .ref v2]) rfl ?_
    refine x_aB e rfl (.inr rfl) rfl (fun z4 e => ?_)
    refine z_eq e rfl (fun e => ?_) (fun e => ?_)
    · refine wp_p (j := J_Sheet_isPartMatch) 1 (pc' := 63) (lv' := [(0, .ref v0), (1, .int v1), (2, .ref v2), (3, .int v3)]) (st' := [.ref v0, .ref v2]) rfl ?_
      refine x_gL e rfl rfl fd_9_12 rfl (fun z5 e => ?_)
      exact wp_lv (lv' := [(0, .ref v0), (1, .int v1), (2, .ref v2), (3, .int v3)]) rfl ⟨rfl, rfl, rfl, rfl, trivial⟩ (x_Sheet_isPartMatch_66 e c)
    · refine wp_p (j := J_Sheet_isPartMatch) 1 (pc' := 56) (lv' := [(0, .ref v0), (1, .int v1), (2, .ref v2), (3, .int v3)]) (st' := [.ref v0, .ref v2]) rfl ?_
      refine x_gL e rfl rfl fd_9_11 rfl (fun z6 e => ?_)
      refine wp_p (j := J_Sheet_isPartMatch) 1 (pc' := 66) (lv' := [(0, .ref v0), (1, .int v1), (2, .ref v2), (3, .int v3)]) (st' := [.long z6, .ref v2]) rfl ?_
      exact wp_lv (lv' := [(0, .ref v0), (1, .int v1), (2, .ref v2), (3, .int v3)]) rfl ⟨rfl, rfl, rfl, rfl, trivial⟩ (x_Sheet_isPartMatch_66 e c)
  · have e := Option.some.inj e; subst e; exact wp_lv (lv' := []) rfl trivial c
noncomputable def L_Sheet_isPartMatch_31 (v0 : Nat) (v1 : Int32) (v2 : Nat) (v3 : Int32) (g : g_S) : Option ((Unit) ⊕ (Unit) ⊕ (Unit) ⊕ (Unit)) := it (fun s : Int32 => b_Sheet_isPartMatch_31 v0 v1 v2 s g) (v3)
theorem l_Sheet_isPartMatch_31 {L : Nat} {xs : Nat → Int32} {Q : Option Value → ab_H → Prop} {v0 : Nat} {v1 : Int32} {v2 : Nat} {v3 : Int32} {g : g_S} {r : (Unit) ⊕ (Unit) ⊕ (Unit) ⊕ (Unit)} (e : L_Sheet_isPartMatch_31 v0 v1 v2 v3 g = some r) (c : cL_Sheet_isPartMatch_31 L xs Q v0 v1 v2 g (.inr r)) : wp (ab_ext L xs) J_Sheet_isPartMatch 31 [(0, .ref v0), (1, .int v1), (2, .ref v2), (3, .int v3)] [] (hp g) Q :=
  it_wp (P := fun s : Int32 => wp (ab_ext L xs) J_Sheet_isPartMatch 31 [(0, .ref v0), (1, .int v1), (2, .ref v2), (3, .int s)] [] (hp g) Q) (E := fun r => cL_Sheet_isPartMatch_31 L xs Q v0 v1 v2 g (.inr r)) (fun s out e c => y_Sheet_isPartMatch_31 e (by cases out <;> exact c)) e c
theorem L_Sheet_isPartMatch_31_eq (v0 : Nat) (v1 : Int32) (v2 : Nat) (v3 : Int32) (g : g_S) : L_Sheet_isPartMatch_31 v0 v1 v2 v3 g = itc (b_Sheet_isPartMatch_31 v0 v1 v2 v3 g) (fun s => L_Sheet_isPartMatch_31 v0 v1 v2 s g) := it_eq2 (fun s : Int32 => b_Sheet_isPartMatch_31 v0 v1 v2 s g) (v3)
noncomputable def k_Sheet_isPartMatch_27 (v0 : Nat) (v1 : Int32) (v2 : Nat) (g : g_S) : Option Int32 :=
  (L_Sheet_isPartMatch_31 v0 v1 v2 (v1 * 4) g).bind <|
    us (fun _ =>
    some 0)
    (us (fun _ =>
    some 0)
    (us (fun _ =>
    some 0)
    (fun _ =>
    some 1)))
set_option maxRecDepth 20000 in
theorem x_Sheet_isPartMatch_27 {L : Nat} {xs : Nat → Int32} {Q : Option Value → ab_H → Prop} {v0 : Nat} {v1 : Int32} {v2 : Nat} {g : g_S} {out : Int32} (e : k_Sheet_isPartMatch_27 v0 v1 v2 g = some out) (c : Q (some (.int out)) (hp g)) : wp (ab_ext L xs) J_Sheet_isPartMatch 27 [(0, .ref v0), (1, .int v1), (2, .ref v2)] [] (hp g) Q := by
  unfold k_Sheet_isPartMatch_27 at e
  refine wp_p (j := J_Sheet_isPartMatch) 4 (pc' := 31) (lv' := [(3, .int (v1 * 4)), (0, .ref v0), (1, .int v1), (2, .ref v2)]) (st' := []) rfl ?_
  obtain ⟨s1, h2, e⟩ := bd e
  refine wp_lv (lv' := [(0, .ref v0), (1, .int v1), (2, .ref v2), (3, .int (v1 * 4))]) rfl ⟨rfl, rfl, rfl, rfl, trivial⟩ ?_
  refine l_Sheet_isPartMatch_31 h2 ?_
  rcases s1 with _ | _ | _ | _
  · replace e := (us_l e)
    show wp (ab_ext L xs) J_Sheet_isPartMatch 76 [] [] (hp g) Q
    refine wp_p (j := J_Sheet_isPartMatch) 1 (pc' := 77) (lv' := []) (st' := [.int 0]) rfl ?_
    have e := Option.some.inj e; subst e; exact wp_iret (ty := .boolean) rfl rfl (by decide) c
  · replace e := (us_l (us_r e))
    show wp (ab_ext L xs) J_Sheet_isPartMatch 102 [] [] (hp g) Q
    refine wp_p (j := J_Sheet_isPartMatch) 2 (pc' := 120) (lv' := []) (st' := [.int 0]) rfl ?_
    have e := Option.some.inj e; subst e; exact wp_iret (ty := .boolean) rfl rfl (by decide) c
  · replace e := (us_l (us_r (us_r e)))
    show wp (ab_ext L xs) J_Sheet_isPartMatch 119 [] [] (hp g) Q
    refine wp_p (j := J_Sheet_isPartMatch) 1 (pc' := 120) (lv' := []) (st' := [.int 0]) rfl ?_
    have e := Option.some.inj e; subst e; exact wp_iret (ty := .boolean) rfl rfl (by decide) c
  · replace e := (us_r (us_r (us_r e)))
    show wp (ab_ext L xs) J_Sheet_isPartMatch 127 [] [] (hp g) Q
    refine wp_p (j := J_Sheet_isPartMatch) 1 (pc' := 128) (lv' := []) (st' := [.int 1]) rfl ?_
    have e := Option.some.inj e; subst e; exact wp_iret (ty := .boolean) rfl rfl (by decide) c
noncomputable def M_Sheet_isPartMatch (v0 : Nat) (v1 : Int32) (v2 : Nat) (g : g_S) : Option Int32 :=
  (rQ g 109 v0 4).bind fun z1 =>
  (aL g z1 v1).bind fun z2 =>
  if (lg_cmp z2 0) = 0 then
    k_Sheet_isPartMatch_27 v0 v1 v2 g
  else
    (rQ g 109 v0 4).bind fun z3 =>
    (aL g z3 v1).bind fun z4 =>
    (rL g 107 v2 1).bind fun z5 =>
    if (lg_cmp z4 z5) = 0 then
      k_Sheet_isPartMatch_27 v0 v1 v2 g
    else
      some 0
set_option maxRecDepth 20000 in
theorem d_Sheet_isPartMatch {L : Nat} {xs : Nat → Int32} {Q : Option Value → ab_H → Prop} {v0 : Nat} {v1 : Int32} {v2 : Nat} {g : g_S} {out : Int32} (e : M_Sheet_isPartMatch v0 v1 v2 g = some out) (c : Q (some (.int out)) (hp g)) : mw (ab_ext L xs) J_Sheet_isPartMatch [.ref v0, .int v1, .ref v2] (hp g) Q := by
  unfold M_Sheet_isPartMatch at e
  refine wp_p (j := J_Sheet_isPartMatch) 1 (pc' := 1) (lv' := [(0, .ref v0), (1, .int v1), (2, .ref v2)]) (st' := [.ref v0]) rfl ?_
  refine x_gQ e rfl rfl fd_9_4 rfl (fun z1 e => ?_)
  refine wp_p (j := J_Sheet_isPartMatch) 1 (pc' := 5) (lv' := [(0, .ref v0), (1, .int v1), (2, .ref v2)]) (st' := [.int v1, .ref z1]) rfl ?_
  refine x_aL e rfl rfl (fun z2 e => ?_)
  refine wp_p (j := J_Sheet_isPartMatch) 2 (pc' := 8) (lv' := [(0, .ref v0), (1, .int v1), (2, .ref v2)]) (st' := [.int (lg_cmp z2 0)]) rfl ?_
  refine z_eq e rfl (fun e => ?_) (fun e => ?_)
  · exact wp_lv (lv' := [(0, .ref v0), (1, .int v1), (2, .ref v2)]) rfl ⟨rfl, rfl, rfl, trivial⟩ (x_Sheet_isPartMatch_27 e c)
  · refine wp_p (j := J_Sheet_isPartMatch) 1 (pc' := 12) (lv' := [(0, .ref v0), (1, .int v1), (2, .ref v2)]) (st' := [.ref v0]) rfl ?_
    refine x_gQ e rfl rfl fd_9_4 rfl (fun z3 e => ?_)
    refine wp_p (j := J_Sheet_isPartMatch) 1 (pc' := 16) (lv' := [(0, .ref v0), (1, .int v1), (2, .ref v2)]) (st' := [.int v1, .ref z3]) rfl ?_
    refine x_aL e rfl rfl (fun z4 e => ?_)
    refine wp_p (j := J_Sheet_isPartMatch) 1 (pc' := 18) (lv' := [(0, .ref v0), (1, .int v1), (2, .ref v2)]) (st' := [.ref v2, .long z4]) rfl ?_
    refine x_gL e rfl rfl fd_7_1 rfl (fun z5 e => ?_)
    refine wp_p (j := J_Sheet_isPartMatch) 1 (pc' := 22) (lv' := [(0, .ref v0), (1, .int v1), (2, .ref v2)]) (st' := [.int (lg_cmp z4 z5)]) rfl ?_
    refine z_eq e rfl (fun e => ?_) (fun e => ?_)
    · exact wp_lv (lv' := [(0, .ref v0), (1, .int v1), (2, .ref v2)]) rfl ⟨rfl, rfl, rfl, trivial⟩ (x_Sheet_isPartMatch_27 e c)
    · refine wp_p (j := J_Sheet_isPartMatch) 1 (pc' := 26) (lv' := [(0, .ref v0), (1, .int v1), (2, .ref v2)]) (st' := [.int 0]) rfl ?_
      have e := Option.some.inj e; subst e; exact wp_iret (ty := .boolean) rfl rfl (by decide) c
def cL_Sheet_isMatch_49 (L : Nat) (xs : Nat → Int32) (Q : Option Value → ab_H → Prop) (v0 : Nat) (v1 : Int32) (g : g_S) (out : (Int32 × Int32) ⊕ (Int32)) : Prop := match out with
  | .inl s => wp (ab_ext L xs) J_Sheet_isMatch 49 [(0, .ref v0), (1, .int v1), (3, .int s.1), (4, .int s.2)] [] (hp g) Q
  | .inr s => wp (ab_ext L xs) J_Sheet_isMatch 101 [(1, .int v1), (3, .int s)] [] (hp g) Q
noncomputable def k_Sheet_isMatch_83 (v0 : Nat) (v1 : Int32) (v3 : Int32) (v4 : Int32) (g : g_S) : Option ((Int32 × Int32) ⊕ (Int32)) :=
  (rQ g 109 v0 0).bind fun z1 =>
  (rQ g 110 z1 0).bind fun z2 =>
  (aQ g 5 z2 v4).bind fun z3 =>
  (rI g 107 z3 2).bind fun z4 =>
  some (.inl (v3, z4))
set_option maxRecDepth 20000 in
theorem x_Sheet_isMatch_83 {L : Nat} {xs : Nat → Int32} {Q : Option Value → ab_H → Prop} {v0 : Nat} {v1 : Int32} {v3 : Int32} {v4 : Int32} {g : g_S} {out : (Int32 × Int32) ⊕ (Int32)} (e : k_Sheet_isMatch_83 v0 v1 v3 v4 g = some out) (c : cL_Sheet_isMatch_49 L xs Q v0 v1 g out) : wp (ab_ext L xs) J_Sheet_isMatch 83 [(0, .ref v0), (1, .int v1), (3, .int v3), (4, .int v4)] [] (hp g) Q := by
  unfold k_Sheet_isMatch_83 at e
  refine wp_p (j := J_Sheet_isMatch) 1 (pc' := 84) (lv' := [(0, .ref v0), (1, .int v1), (3, .int v3), (4, .int v4)]) (st' := [.ref v0]) rfl ?_
  refine x_gQ e rfl rfl fd_9_0 rfl (fun z1 e => ?_)
  refine x_gQ e rfl rfl fd_10_0 rfl (fun z2 e => ?_)
  refine wp_p (j := J_Sheet_isMatch) 1 (pc' := 92) (lv' := [(0, .ref v0), (1, .int v1), (3, .int v3), (4, .int v4)]) (st' := [.int v4, .ref z2]) rfl ?_
  refine x_aQ e rfl rfl rfl (fun z3 e => ?_)
  refine x_gI e rfl rfl fd_7_2 rfl (fun z4 e => ?_)
  refine wp_p (j := J_Sheet_isMatch) 2 (pc' := 49) (lv' := [(4, .int z4), (0, .ref v0), (1, .int v1), (3, .int v3)]) (st' := []) rfl ?_
  have e := Option.some.inj e; subst e; exact wp_lv (lv' := [(0, .ref v0), (1, .int v1), (3, .int v3), (4, .int z4)]) rfl ⟨rfl, rfl, rfl, rfl, trivial⟩ c
noncomputable def b_Sheet_isMatch_49 (v0 : Nat) (v1 : Int32) (v3 : Int32) (v4 : Int32) (g : g_S) : Option ((Int32 × Int32) ⊕ (Int32)) :=
  if v4 = (-1) then
    some (.inr v3)
  else
    if v3 < (v1 * 3) then
      some (.inr v3)
    else
      (rQ g 109 v0 0).bind fun z1 =>
      (rQ g 110 z1 0).bind fun z2 =>
      (aQ g 5 z2 v4).bind fun z3 =>
      (vc g 109 v0 (M_Sheet_isPartMatch v0 v3 z3 g)).bind fun z4 =>
      if z4 = 0 then
        k_Sheet_isMatch_83 v0 v1 v3 v4 g
      else
        k_Sheet_isMatch_83 v0 v1 (v3 + (-1)) v4 g
set_option maxRecDepth 20000 in
theorem y_Sheet_isMatch_49 {L : Nat} {xs : Nat → Int32} {Q : Option Value → ab_H → Prop} {v0 : Nat} {v1 : Int32} {v3 : Int32} {v4 : Int32} {g : g_S} {out : (Int32 × Int32) ⊕ (Int32)} (e : b_Sheet_isMatch_49 v0 v1 v3 v4 g = some out) (c : cL_Sheet_isMatch_49 L xs Q v0 v1 g out) : wp (ab_ext L xs) J_Sheet_isMatch 49 [(0, .ref v0), (1, .int v1), (3, .int v3), (4, .int v4)] [] (hp g) Q := by
  unfold b_Sheet_isMatch_49 at e
  refine wp_p (j := J_Sheet_isMatch) 2 (pc' := 52) (lv' := [(0, .ref v0), (1, .int v1), (3, .int v3), (4, .int v4)]) (st' := [.int (-1), .int v4]) rfl ?_
  refine x_eq e rfl (fun e => ?_) (fun e => ?_)
  · have e := Option.some.inj e; subst e; exact wp_lv (lv' := [(1, .int v1), (3, .int v3)]) rfl ⟨rfl, rfl, trivial⟩ c
  · refine wp_p (j := J_Sheet_isMatch) 4 (pc' := 59) (lv' := [(0, .ref v0), (1, .int v1), (3, .int v3), (4, .int v4)]) (st' := [.int (v1 * 3), .int v3]) rfl ?_
    refine x_lt e rfl (fun e => ?_) (fun e => ?_)
    · have e := Option.some.inj e; subst e; exact wp_lv (lv' := [(1, .int v1), (3, .int v3)]) rfl ⟨rfl, rfl, trivial⟩ c
    · refine wp_p (j := J_Sheet_isMatch) 3 (pc' := 65) (lv' := [(0, .ref v0), (1, .int v1), (3, .int v3), (4, .int v4)]) (st' := [.ref v0, .int v3, .ref v0]) rfl ?_
      refine x_gQ e rfl rfl fd_9_0 rfl (fun z1 e => ?_)
      refine x_gQ e rfl rfl fd_10_0 rfl (fun z2 e => ?_)
      refine wp_p (j := J_Sheet_isMatch) 1 (pc' := 73) (lv' := [(0, .ref v0), (1, .int v1), (3, .int v3), (4, .int v4)]) (st' := [.int v4, .ref z2, .int v3, .ref v0]) rfl ?_
      refine x_aQ e rfl rfl rfl (fun z3 e => ?_)
      refine x_cv1 (As := [.int v3, .ref z3]) (rest := []) Value.int e rfl rfl rfl rfl rfl rfl (fun h => d_Sheet_isPartMatch h ⟨rfl, rfl⟩) (fun z4 e => ?_)
      refine z_eq e rfl (fun e => ?_) (fun e => ?_)
      · exact wp_lv (lv' := [(0, .ref v0), (1, .int v1), (3, .int v3), (4, .int v4)]) rfl ⟨rfl, rfl, rfl, rfl, trivial⟩ (x_Sheet_isMatch_83 e c)
      · refine wp_p (j := J_Sheet_isMatch) 1 (pc' := 83) (lv' := [(3, .int (v3 + (-1))), (0, .ref v0), (1, .int v1), (4, .int v4)]) (st' := []) rfl ?_
        exact wp_lv (lv' := [(0, .ref v0), (1, .int v1), (3, .int (v3 + (-1))), (4, .int v4)]) rfl ⟨rfl, rfl, rfl, rfl, trivial⟩ (x_Sheet_isMatch_83 e c)
noncomputable def L_Sheet_isMatch_49 (v0 : Nat) (v1 : Int32) (v3 : Int32) (v4 : Int32) (g : g_S) : Option (Int32) := it (fun s : Int32 × Int32 => b_Sheet_isMatch_49 v0 v1 s.1 s.2 g) (v3, v4)
theorem l_Sheet_isMatch_49 {L : Nat} {xs : Nat → Int32} {Q : Option Value → ab_H → Prop} {v0 : Nat} {v1 : Int32} {v3 : Int32} {v4 : Int32} {g : g_S} {r : Int32} (e : L_Sheet_isMatch_49 v0 v1 v3 v4 g = some r) (c : cL_Sheet_isMatch_49 L xs Q v0 v1 g (.inr r)) : wp (ab_ext L xs) J_Sheet_isMatch 49 [(0, .ref v0), (1, .int v1), (3, .int v3), (4, .int v4)] [] (hp g) Q :=
  it_wp (P := fun s : Int32 × Int32 => wp (ab_ext L xs) J_Sheet_isMatch 49 [(0, .ref v0), (1, .int v1), (3, .int s.1), (4, .int s.2)] [] (hp g) Q) (E := fun r => cL_Sheet_isMatch_49 L xs Q v0 v1 g (.inr r)) (fun s out e c => y_Sheet_isMatch_49 e (by cases out <;> exact c)) e c
theorem L_Sheet_isMatch_49_eq (v0 : Nat) (v1 : Int32) (v3 : Int32) (v4 : Int32) (g : g_S) : L_Sheet_isMatch_49 v0 v1 v3 v4 g = itc (b_Sheet_isMatch_49 v0 v1 v3 v4 g) (fun s => L_Sheet_isMatch_49 v0 v1 s.1 s.2 g) := it_eq2 (fun s : Int32 × Int32 => b_Sheet_isMatch_49 v0 v1 s.1 s.2 g) (v3, v4)
noncomputable def k_Sheet_isMatch_101 (v1 : Int32) (v3 : Int32) (g : g_S) : Option Int32 :=
  if v3 < (v1 * 3) then
    some 1
  else
    some 0
set_option maxRecDepth 20000 in
theorem x_Sheet_isMatch_101 {L : Nat} {xs : Nat → Int32} {Q : Option Value → ab_H → Prop} {v1 : Int32} {v3 : Int32} {g : g_S} {out : Int32} (e : k_Sheet_isMatch_101 v1 v3 g = some out) (c : Q (some (.int out)) (hp g)) : wp (ab_ext L xs) J_Sheet_isMatch 101 [(1, .int v1), (3, .int v3)] [] (hp g) Q := by
  unfold k_Sheet_isMatch_101 at e
  refine wp_p (j := J_Sheet_isMatch) 4 (pc' := 105) (lv' := [(1, .int v1), (3, .int v3)]) (st' := [.int (v1 * 3), .int v3]) rfl ?_
  refine x_ge e rfl (fun e => ?_) (fun e => ?_)
  · refine wp_p (j := J_Sheet_isMatch) 2 (pc' := 113) (lv' := [(1, .int v1), (3, .int v3)]) (st' := [.int 1]) rfl ?_
    have e := Option.some.inj e; subst e; exact wp_iret (ty := .boolean) rfl rfl (by decide) c
  · refine wp_p (j := J_Sheet_isMatch) 1 (pc' := 113) (lv' := [(1, .int v1), (3, .int v3)]) (st' := [.int 0]) rfl ?_
    have e := Option.some.inj e; subst e; exact wp_iret (ty := .boolean) rfl rfl (by decide) c
noncomputable def M_Sheet_isMatch (v0 : Nat) (v1 : Int32) (v2 : Int32) (g : g_S) : Option Int32 :=
  (rQ g 109 v0 1).bind fun z1 =>
  (aI g 0 z1 v1).bind fun z2 =>
  (rQ g 109 v0 0).bind fun z3 =>
  (rQ g 110 z3 0).bind fun z4 =>
  (aQ g 5 z4 v2).bind fun z5 =>
  (vc g 109 v0 (M_Sheet_isPartMatch v0 (((v1 * 3) + z2) - 1) z5 g)).bind fun z6 =>
  if z6 = 0 then
    some 0
  else
    (rQ g 109 v0 0).bind fun z7 =>
    (rQ g 110 z7 0).bind fun z8 =>
    (aQ g 5 z8 v2).bind fun z9 =>
    (rI g 107 z9 2).bind fun z10 =>
    (L_Sheet_isMatch_49 v0 v1 ((((v1 * 3) + z2) - 1) + (-1)) z10 g).bind <| fun z13 =>
    k_Sheet_isMatch_101 v1 z13 g
set_option maxRecDepth 20000 in
theorem d_Sheet_isMatch {L : Nat} {xs : Nat → Int32} {Q : Option Value → ab_H → Prop} {v0 : Nat} {v1 : Int32} {v2 : Int32} {g : g_S} {out : Int32} (e : M_Sheet_isMatch v0 v1 v2 g = some out) (c : Q (some (.int out)) (hp g)) : mw (ab_ext L xs) J_Sheet_isMatch [.ref v0, .int v1, .int v2] (hp g) Q := by
  unfold M_Sheet_isMatch at e
  refine wp_p (j := J_Sheet_isMatch) 4 (pc' := 4) (lv' := [(0, .ref v0), (1, .int v1), (2, .int v2)]) (st' := [.ref v0, .int (v1 * 3)]) rfl ?_
  refine x_gQ e rfl rfl fd_9_1 rfl (fun z1 e => ?_)
  refine wp_p (j := J_Sheet_isMatch) 1 (pc' := 8) (lv' := [(0, .ref v0), (1, .int v1), (2, .int v2)]) (st' := [.int v1, .ref z1, .int (v1 * 3)]) rfl ?_
  refine x_aI e rfl rfl (fun z2 e => ?_)
  refine wp_p (j := J_Sheet_isMatch) 7 (pc' := 16) (lv' := [(3, .int (((v1 * 3) + z2) - 1)), (0, .ref v0), (1, .int v1), (2, .int v2)]) (st' := [.ref v0, .int (((v1 * 3) + z2) - 1), .ref v0]) rfl ?_
  refine x_gQ e rfl rfl fd_9_0 rfl (fun z3 e => ?_)
  refine x_gQ e rfl rfl fd_10_0 rfl (fun z4 e => ?_)
  refine wp_p (j := J_Sheet_isMatch) 1 (pc' := 23) (lv' := [(3, .int (((v1 * 3) + z2) - 1)), (0, .ref v0), (1, .int v1), (2, .int v2)]) (st' := [.int v2, .ref z4, .int (((v1 * 3) + z2) - 1), .ref v0]) rfl ?_
  refine x_aQ e rfl rfl rfl (fun z5 e => ?_)
  refine x_cv1 (As := [.int (((v1 * 3) + z2) - 1), .ref z5]) (rest := []) Value.int e rfl rfl rfl rfl rfl rfl (fun h => d_Sheet_isPartMatch h ⟨rfl, rfl⟩) (fun z6 e => ?_)
  refine z_ne e rfl (fun e => ?_) (fun e => ?_)
  · refine wp_p (j := J_Sheet_isMatch) 1 (pc' := 31) (lv' := [(3, .int (((v1 * 3) + z2) - 1)), (0, .ref v0), (1, .int v1), (2, .int v2)]) (st' := [.int 0]) rfl ?_
    have e := Option.some.inj e; subst e; exact wp_iret (ty := .boolean) rfl rfl (by decide) c
  · refine wp_p (j := J_Sheet_isMatch) 2 (pc' := 36) (lv' := [(3, .int ((((v1 * 3) + z2) - 1) + (-1))), (0, .ref v0), (1, .int v1), (2, .int v2)]) (st' := [.ref v0]) rfl ?_
    refine x_gQ e rfl rfl fd_9_0 rfl (fun z7 e => ?_)
    refine x_gQ e rfl rfl fd_10_0 rfl (fun z8 e => ?_)
    refine wp_p (j := J_Sheet_isMatch) 1 (pc' := 43) (lv' := [(3, .int ((((v1 * 3) + z2) - 1) + (-1))), (0, .ref v0), (1, .int v1), (2, .int v2)]) (st' := [.int v2, .ref z8]) rfl ?_
    refine x_aQ e rfl rfl rfl (fun z9 e => ?_)
    refine x_gI e rfl rfl fd_7_2 rfl (fun z10 e => ?_)
    refine wp_p (j := J_Sheet_isMatch) 1 (pc' := 49) (lv' := [(4, .int z10), (3, .int ((((v1 * 3) + z2) - 1) + (-1))), (0, .ref v0), (1, .int v1), (2, .int v2)]) (st' := []) rfl ?_
    obtain ⟨z13, h12, e⟩ := bd e
    refine wp_lv (lv' := [(0, .ref v0), (1, .int v1), (3, .int ((((v1 * 3) + z2) - 1) + (-1))), (4, .int z10)]) rfl ⟨rfl, rfl, rfl, rfl, trivial⟩ ?_
    refine l_Sheet_isMatch_49 h12 ?_
    show wp (ab_ext L xs) J_Sheet_isMatch 101 [(1, .int v1), (3, .int z13)] [] (hp g) Q
    exact wp_lv (lv' := [(1, .int v1), (3, .int z13)]) rfl ⟨rfl, rfl, trivial⟩ (x_Sheet_isMatch_101 e c)
def cL_H_listMatches_14 (L : Nat) (xs : Nat → Int32) (Q : Option Value → ab_H → Prop) (v0 : Nat) (out : (Int32 × g_S) ⊕ (g_S)) : Prop := match out with
  | .inl s => wp (ab_ext L xs) J_H_listMatches 14 [(0, .ref v0), (1, .int s.1)] [] (hp s.2) Q
  | .inr s => wp (ab_ext L xs) J_H_listMatches 91 [(0, .ref v0)] [] (hp s) Q
noncomputable def b_H_listMatches_14 (v0 : Nat) (v1 : Int32) (g : g_S) : Option ((Int32 × g_S) ⊕ (g_S)) :=
  (rQ g 111 v0 2).bind fun z1 =>
  (rI g 110 z1 3).bind fun z2 =>
  if v1 < z2 then
    (rQ g 111 v0 2).bind fun z3 =>
    (rQ g 110 z3 2).bind fun z4 =>
    (aI g 0 z4 v1).bind fun z5 =>
    (rQ g 111 v0 2).bind fun z6 =>
    (rQ g 110 z6 0).bind fun z7 =>
    (aQ g 5 z7 z5).bind fun z8 =>
    (rI g 107 z8 0).bind fun z9 =>
    if z9 = 17 then
      some (.inl (v1 + 1, g))
    else
      (rQ g 111 v0 5).bind fun z10 =>
      (vc g 109 z10 (M_Sheet_isMatch z10 40 z5 g)).bind fun z11 =>
      if z11 = 0 then
        some (.inl (v1 + 1, g))
      else
        (rQ g 111 v0 8).bind fun z12 =>
        (rI g 111 v0 9).bind fun z13 =>
        (sI g z12 z13 z5).bind fun g14 =>
        (rI g14 111 v0 9).bind fun z15 =>
        (wI g14 111 v0 9 (z15 + 1)).bind fun g16 =>
        some (.inl (v1 + 1, g16))
  else
    some (.inr g)
set_option maxRecDepth 20000 in
theorem y_H_listMatches_14 {L : Nat} {xs : Nat → Int32} {Q : Option Value → ab_H → Prop} {v0 : Nat} {v1 : Int32} {g : g_S} {out : (Int32 × g_S) ⊕ (g_S)} (e : b_H_listMatches_14 v0 v1 g = some out) (c : cL_H_listMatches_14 L xs Q v0 out) : wp (ab_ext L xs) J_H_listMatches 14 [(0, .ref v0), (1, .int v1)] [] (hp g) Q := by
  unfold b_H_listMatches_14 at e
  refine wp_p (j := J_H_listMatches) 2 (pc' := 16) (lv' := [(0, .ref v0), (1, .int v1)]) (st' := [.ref v0, .int v1]) rfl ?_
  refine x_gQ e rfl rfl fd_11_2 rfl (fun z1 e => ?_)
  refine x_gI e rfl rfl fd_10_3 rfl (fun z2 e => ?_)
  refine x_ge e rfl (fun e => ?_) (fun e => ?_)
  · refine wp_p (j := J_H_listMatches) 1 (pc' := 26) (lv' := [(0, .ref v0), (1, .int v1)]) (st' := [.ref v0]) rfl ?_
    refine x_gQ e rfl rfl fd_11_2 rfl (fun z3 e => ?_)
    refine x_gQ e rfl rfl fd_10_2 rfl (fun z4 e => ?_)
    refine wp_p (j := J_H_listMatches) 1 (pc' := 33) (lv' := [(0, .ref v0), (1, .int v1)]) (st' := [.int v1, .ref z4]) rfl ?_
    refine x_aI e rfl rfl (fun z5 e => ?_)
    refine wp_p (j := J_H_listMatches) 2 (pc' := 36) (lv' := [(2, .int z5), (0, .ref v0), (1, .int v1)]) (st' := [.ref v0]) rfl ?_
    refine x_gQ e rfl rfl fd_11_2 rfl (fun z6 e => ?_)
    refine x_gQ e rfl rfl fd_10_0 rfl (fun z7 e => ?_)
    refine wp_p (j := J_H_listMatches) 1 (pc' := 43) (lv' := [(2, .int z5), (0, .ref v0), (1, .int v1)]) (st' := [.int z5, .ref z7]) rfl ?_
    refine x_aQ e rfl rfl rfl (fun z8 e => ?_)
    refine x_gI e rfl rfl fd_7_0 rfl (fun z9 e => ?_)
    refine wp_p (j := J_H_listMatches) 1 (pc' := 49) (lv' := [(2, .int z5), (0, .ref v0), (1, .int v1)]) (st' := [.int 17, .int z9]) rfl ?_
    refine x_eq e rfl (fun e => ?_) (fun e => ?_)
    · refine wp_p (j := J_H_listMatches) 2 (pc' := 14) (lv' := [(1, .int (v1 + 1)), (2, .int z5), (0, .ref v0)]) (st' := []) rfl ?_
      have e := Option.some.inj e; subst e; exact wp_lv (lv' := [(0, .ref v0), (1, .int (v1 + 1))]) rfl ⟨rfl, rfl, trivial⟩ c
    · refine wp_p (j := J_H_listMatches) 1 (pc' := 53) (lv' := [(2, .int z5), (0, .ref v0), (1, .int v1)]) (st' := [.ref v0]) rfl ?_
      refine x_gQ e rfl rfl fd_11_5 rfl (fun z10 e => ?_)
      refine wp_p (j := J_H_listMatches) 2 (pc' := 59) (lv' := [(2, .int z5), (0, .ref v0), (1, .int v1)]) (st' := [.int z5, .int 40, .ref z10]) rfl ?_
      refine x_cv1 (As := [.int 40, .int z5]) (rest := []) Value.int e rfl rfl rfl rfl rfl rfl (fun h => d_Sheet_isMatch h ⟨rfl, rfl⟩) (fun z11 e => ?_)
      refine z_eq e rfl (fun e => ?_) (fun e => ?_)
      · refine wp_p (j := J_H_listMatches) 2 (pc' := 14) (lv' := [(1, .int (v1 + 1)), (2, .int z5), (0, .ref v0)]) (st' := []) rfl ?_
        have e := Option.some.inj e; subst e; exact wp_lv (lv' := [(0, .ref v0), (1, .int (v1 + 1))]) rfl ⟨rfl, rfl, trivial⟩ c
      · refine wp_p (j := J_H_listMatches) 1 (pc' := 66) (lv' := [(2, .int z5), (0, .ref v0), (1, .int v1)]) (st' := [.ref v0]) rfl ?_
        refine x_gQ e rfl rfl fd_11_8 rfl (fun z12 e => ?_)
        refine wp_p (j := J_H_listMatches) 1 (pc' := 70) (lv' := [(2, .int z5), (0, .ref v0), (1, .int v1)]) (st' := [.ref v0, .ref z12]) rfl ?_
        refine x_gI e rfl rfl fd_11_9 rfl (fun z13 e => ?_)
        refine wp_p (j := J_H_listMatches) 1 (pc' := 74) (lv' := [(2, .int z5), (0, .ref v0), (1, .int v1)]) (st' := [.int z5, .int z13, .ref z12]) rfl ?_
        refine x_sI e rfl rfl (fun g14 e => ?_)
        refine wp_p (j := J_H_listMatches) 2 (pc' := 77) (lv' := [(2, .int z5), (0, .ref v0), (1, .int v1)]) (st' := [.ref v0, .ref v0]) rfl ?_
        refine x_gI e rfl rfl fd_11_9 rfl (fun z15 e => ?_)
        refine wp_p (j := J_H_listMatches) 2 (pc' := 82) (lv' := [(2, .int z5), (0, .ref v0), (1, .int v1)]) (st' := [.int (z15 + 1), .ref v0]) rfl ?_
        refine x_pI e rfl rfl fw_11_9 rfl (fun g16 e => ?_)
        refine wp_p (j := J_H_listMatches) 2 (pc' := 14) (lv' := [(1, .int (v1 + 1)), (2, .int z5), (0, .ref v0)]) (st' := []) rfl ?_
        have e := Option.some.inj e; subst e; exact wp_lv (lv' := [(0, .ref v0), (1, .int (v1 + 1))]) rfl ⟨rfl, rfl, trivial⟩ c
  · have e := Option.some.inj e; subst e; exact wp_lv (lv' := [(0, .ref v0)]) rfl ⟨rfl, trivial⟩ c
noncomputable def L_H_listMatches_14 (v0 : Nat) (v1 : Int32) (g : g_S) : Option (g_S) := it (fun s : Int32 × g_S => b_H_listMatches_14 v0 s.1 s.2) (v1, g)
theorem l_H_listMatches_14 {L : Nat} {xs : Nat → Int32} {Q : Option Value → ab_H → Prop} {v0 : Nat} {v1 : Int32} {g : g_S} {r : g_S} (e : L_H_listMatches_14 v0 v1 g = some r) (c : cL_H_listMatches_14 L xs Q v0 (.inr r)) : wp (ab_ext L xs) J_H_listMatches 14 [(0, .ref v0), (1, .int v1)] [] (hp g) Q :=
  it_wp (P := fun s : Int32 × g_S => wp (ab_ext L xs) J_H_listMatches 14 [(0, .ref v0), (1, .int s.1)] [] (hp s.2) Q) (E := fun r => cL_H_listMatches_14 L xs Q v0 (.inr r)) (fun s out e c => y_H_listMatches_14 e (by cases out <;> exact c)) e c
theorem L_H_listMatches_14_eq (v0 : Nat) (v1 : Int32) (g : g_S) : L_H_listMatches_14 v0 v1 g = itc (b_H_listMatches_14 v0 v1 g) (fun s => L_H_listMatches_14 v0 s.1 s.2) := it_eq2 (fun s : Int32 × g_S => b_H_listMatches_14 v0 s.1 s.2) (v1, g)
noncomputable def M_H_listMatches (v0 : Nat) (g : g_S) : Option (Int32 × g_S) :=
  (wI g 111 v0 9 0).bind fun g1 =>
  (rQ g1 111 v0 2).bind fun z2 =>
  (vc g1 110 z2 (M_Tree_list z2 g1)).bind fun g3 =>
  (L_H_listMatches_14 v0 0 g3).bind <| fun g6 =>
  (rI g6 111 v0 9).bind fun z7 =>
  some (z7, g6)
set_option maxRecDepth 20000 in
theorem d_H_listMatches {L : Nat} {xs : Nat → Int32} {Q : Option Value → ab_H → Prop} {v0 : Nat} {g : g_S} {out : Int32 × g_S} (e : M_H_listMatches v0 g = some out) (c : Q (some (.int out.1)) (hp out.2)) : mw (ab_ext L xs) J_H_listMatches [.ref v0] (hp g) Q := by
  unfold M_H_listMatches at e
  refine wp_p (j := J_H_listMatches) 2 (pc' := 2) (lv' := [(0, .ref v0)]) (st' := [.int 0, .ref v0]) rfl ?_
  refine x_pI e rfl rfl fw_11_9 rfl (fun g1 e => ?_)
  refine wp_p (j := J_H_listMatches) 1 (pc' := 6) (lv' := [(0, .ref v0)]) (st' := [.ref v0]) rfl ?_
  refine x_gQ e rfl rfl fd_11_2 rfl (fun z2 e => ?_)
  refine x_cv0 (As := []) (rest := []) e rfl rfl rfl rfl rfl rfl (fun h => d_Tree_list h ⟨rfl, rfl⟩) (fun g3 e => ?_)
  refine wp_p (j := J_H_listMatches) 2 (pc' := 14) (lv' := [(1, .int 0), (0, .ref v0)]) (st' := []) rfl ?_
  obtain ⟨g6, h5, e⟩ := bd e
  refine wp_lv (lv' := [(0, .ref v0), (1, .int 0)]) rfl ⟨rfl, rfl, trivial⟩ ?_
  refine l_H_listMatches_14 h5 ?_
  show wp (ab_ext L xs) J_H_listMatches 91 [(0, .ref v0)] [] (hp g6) Q
  refine wp_p (j := J_H_listMatches) 1 (pc' := 92) (lv' := [(0, .ref v0)]) (st' := [.ref v0]) rfl ?_
  refine x_gI e rfl rfl fd_11_9 rfl (fun z7 e => ?_)
  have e := Option.some.inj e; subst e; exact wp_iret (ty := .int) rfl rfl rfl c
noncomputable def k_H_select_51 (v0 : Nat) (v1 : Int32) (g : g_S) : Option (Int32 × g_S) :=
  (rQ g 111 v0 0).bind fun z1 =>
  (vc g 104 z1 (M_Bytes_clear z1 g)).bind fun g2 =>
  some (v1, g2)
set_option maxRecDepth 20000 in
theorem x_H_select_51 {L : Nat} {xs : Nat → Int32} {Q : Option Value → ab_H → Prop} {v0 : Nat} {v1 : Int32} {g : g_S} {out : Int32 × g_S} (e : k_H_select_51 v0 v1 g = some out) (c : Q (some (.int out.1)) (hp out.2)) : wp (ab_ext L xs) J_H_select 51 [(0, .ref v0), (1, .int v1)] [] (hp g) Q := by
  unfold k_H_select_51 at e
  refine wp_p (j := J_H_select) 1 (pc' := 52) (lv' := [(0, .ref v0), (1, .int v1)]) (st' := [.ref v0]) rfl ?_
  refine x_gQ e rfl rfl fd_11_0 rfl (fun z1 e => ?_)
  refine x_cv0 (As := []) (rest := []) e rfl rfl rfl rfl rfl rfl (fun h => d_Bytes_clear h ⟨rfl, rfl⟩) (fun g2 e => ?_)
  refine wp_p (j := J_H_select) 1 (pc' := 59) (lv' := [(0, .ref v0), (1, .int v1)]) (st' := [.int v1]) rfl ?_
  have e := Option.some.inj e; subst e; exact wp_iret (ty := .int) rfl rfl rfl c
noncomputable def k_H_select_50 (v0 : Nat) (w0 : Int32) (g : g_S) : Option (Int32 × g_S) :=
  k_H_select_51 v0 w0 g
set_option maxRecDepth 20000 in
theorem x_H_select_50 {L : Nat} {xs : Nat → Int32} {Q : Option Value → ab_H → Prop} {v0 : Nat} {w0 : Int32} {g : g_S} {out : Int32 × g_S} (e : k_H_select_50 v0 w0 g = some out) (c : Q (some (.int out.1)) (hp out.2)) : wp (ab_ext L xs) J_H_select 50 [(0, .ref v0)] [.int w0] (hp g) Q := by
  unfold k_H_select_50 at e
  refine wp_p (j := J_H_select) 1 (pc' := 51) (lv' := [(1, .int w0), (0, .ref v0)]) (st' := []) rfl ?_
  exact wp_lv (lv' := [(0, .ref v0), (1, .int w0)]) rfl ⟨rfl, rfl, trivial⟩ (x_H_select_51 e c)
noncomputable def M_H_select (v0 : Nat) (g : g_S) : Option (Int32 × g_S) :=
  (vc g 111 v0 (M_H_wrongByte v0 g)).bind fun z1 =>
  if z1 = 0 then
    (rQ g 111 v0 5).bind fun z2 =>
    (rQ g 111 v0 0).bind fun z3 =>
    (rQ g 104 z3 1).bind fun z4 =>
    (rQ g 111 v0 0).bind fun z5 =>
    (rI g 104 z5 2).bind fun z6 =>
    c2 (vc g 109 z2 (M_Sheet_readSelector z2 z4 0 z6 40 g)) fun z7 g8 =>
    if z7 < 0 then
      c2 (vc g8 111 v0 (M_H_listMatches v0 g8)) fun z9 g10 =>
      k_H_select_50 v0 z9 g10
    else
      k_H_select_50 v0 ((-1000) - z7) g8
  else
    k_H_select_51 v0 z1 g
set_option maxRecDepth 20000 in
theorem d_H_select {L : Nat} {xs : Nat → Int32} {Q : Option Value → ab_H → Prop} {v0 : Nat} {g : g_S} {out : Int32 × g_S} (e : M_H_select v0 g = some out) (c : Q (some (.int out.1)) (hp out.2)) : mw (ab_ext L xs) J_H_select [.ref v0] (hp g) Q := by
  unfold M_H_select at e
  refine wp_p (j := J_H_select) 1 (pc' := 1) (lv' := [(0, .ref v0)]) (st' := [.ref v0]) rfl ?_
  refine x_cv1 (As := []) (rest := []) Value.int e rfl rfl rfl rfl rfl rfl (fun h => d_H_wrongByte h ⟨rfl, rfl⟩) (fun z1 e => ?_)
  refine wp_p (j := J_H_select) 2 (pc' := 6) (lv' := [(1, .int z1), (0, .ref v0)]) (st' := [.int z1]) rfl ?_
  refine z_ne e rfl (fun e => ?_) (fun e => ?_)
  · refine wp_p (j := J_H_select) 1 (pc' := 10) (lv' := [(1, .int z1), (0, .ref v0)]) (st' := [.ref v0]) rfl ?_
    refine x_gQ e rfl rfl fd_11_5 rfl (fun z2 e => ?_)
    refine wp_p (j := J_H_select) 1 (pc' := 14) (lv' := [(1, .int z1), (0, .ref v0)]) (st' := [.ref v0, .ref z2]) rfl ?_
    refine x_gQ e rfl rfl fd_11_0 rfl (fun z3 e => ?_)
    refine x_gQ e rfl rfl fd_4_1 rfl (fun z4 e => ?_)
    refine wp_p (j := J_H_select) 2 (pc' := 22) (lv' := [(1, .int z1), (0, .ref v0)]) (st' := [.ref v0, .int 0, .ref z4, .ref z2]) rfl ?_
    refine x_gQ e rfl rfl fd_11_0 rfl (fun z5 e => ?_)
    refine x_gI e rfl rfl fd_4_2 rfl (fun z6 e => ?_)
    refine wp_p (j := J_H_select) 1 (pc' := 30) (lv' := [(1, .int z1), (0, .ref v0)]) (st' := [.int 40, .int z6, .int 0, .ref z4, .ref z2]) rfl ?_
    refine x_cv2 (As := [.ref z4, .int 0, .int z6, .int 40]) (rest := []) Value.int e rfl rfl rfl rfl rfl rfl (fun h => d_Sheet_readSelector h ⟨rfl, rfl⟩) (fun z7 g8 e => ?_)
    refine wp_p (j := J_H_select) 2 (pc' := 35) (lv' := [(2, .int z7), (1, .int z1), (0, .ref v0)]) (st' := [.int z7]) rfl ?_
    refine z_lt e rfl (fun e => ?_) (fun e => ?_)
    · refine wp_p (j := J_H_select) 1 (pc' := 47) (lv' := [(2, .int z7), (1, .int z1), (0, .ref v0)]) (st' := [.ref v0]) rfl ?_
      refine x_cv2 (As := []) (rest := []) Value.int e rfl rfl rfl rfl rfl rfl (fun h => d_H_listMatches h ⟨rfl, rfl⟩) (fun z9 g10 e => ?_)
      exact wp_lv (lv' := [(0, .ref v0)]) rfl ⟨rfl, trivial⟩ (x_H_select_50 e c)
    · refine wp_p (j := J_H_select) 4 (pc' := 50) (lv' := [(2, .int z7), (1, .int z1), (0, .ref v0)]) (st' := [.int ((-1000) - z7)]) rfl ?_
      exact wp_lv (lv' := [(0, .ref v0)]) rfl ⟨rfl, trivial⟩ (x_H_select_50 e c)
  · exact wp_lv (lv' := [(0, .ref v0), (1, .int z1)]) rfl ⟨rfl, rfl, trivial⟩ (x_H_select_51 e c)
noncomputable def M_H_found (v0 : Nat) (v1 : Int32) (g : g_S) : Option Int32 :=
  if v1 < 0 then
    some (-1)
  else
    (rI g 111 v0 9).bind fun z1 =>
    if v1 < z1 then
      (rQ g 111 v0 8).bind fun z2 =>
      (aI g 0 z2 v1).bind fun z3 =>
      some z3
    else
      some (-1)
set_option maxRecDepth 20000 in
theorem d_H_found {L : Nat} {xs : Nat → Int32} {Q : Option Value → ab_H → Prop} {v0 : Nat} {v1 : Int32} {g : g_S} {out : Int32} (e : M_H_found v0 v1 g = some out) (c : Q (some (.int out)) (hp g)) : mw (ab_ext L xs) J_H_found [.ref v0, .int v1] (hp g) Q := by
  unfold M_H_found at e
  refine wp_p (j := J_H_found) 1 (pc' := 1) (lv' := [(0, .ref v0), (1, .int v1)]) (st' := [.int v1]) rfl ?_
  refine z_lt e rfl (fun e => ?_) (fun e => ?_)
  · refine wp_p (j := J_H_found) 1 (pc' := 22) (lv' := [(0, .ref v0), (1, .int v1)]) (st' := [.int (-1)]) rfl ?_
    have e := Option.some.inj e; subst e; exact wp_iret (ty := .int) rfl rfl rfl c
  · refine wp_p (j := J_H_found) 2 (pc' := 6) (lv' := [(0, .ref v0), (1, .int v1)]) (st' := [.ref v0, .int v1]) rfl ?_
    refine x_gI e rfl rfl fd_11_9 rfl (fun z1 e => ?_)
    refine x_ge e rfl (fun e => ?_) (fun e => ?_)
    · refine wp_p (j := J_H_found) 1 (pc' := 13) (lv' := [(0, .ref v0), (1, .int v1)]) (st' := [.ref v0]) rfl ?_
      refine x_gQ e rfl rfl fd_11_8 rfl (fun z2 e => ?_)
      refine wp_p (j := J_H_found) 1 (pc' := 17) (lv' := [(0, .ref v0), (1, .int v1)]) (st' := [.int v1, .ref z2]) rfl ?_
      refine x_aI e rfl rfl (fun z3 e => ?_)
      refine wp_p (j := J_H_found) 1 (pc' := 22) (lv' := [(0, .ref v0), (1, .int v1)]) (st' := [.int z3]) rfl ?_
      have e := Option.some.inj e; subst e; exact wp_iret (ty := .int) rfl rfl rfl c
    · refine wp_p (j := J_H_found) 1 (pc' := 22) (lv' := [(0, .ref v0), (1, .int v1)]) (st' := [.int (-1)]) rfl ?_
      have e := Option.some.inj e; subst e; exact wp_iret (ty := .int) rfl rfl rfl c
def cL_Sheet_indexOf_3 (L : Nat) (xs : Nat → Int32) (Q : Option Value → ab_H → Prop) (v0 : Nat) (v2 : Int32) (v3 : Int32) (g : g_S) (out : (Int32) ⊕ (Int32)) : Prop := match out with
  | .inl s => wp (ab_ext L xs) J_Sheet_indexOf 3 [(0, .ref v0), (2, .int v2), (3, .int v3), (4, .int s)] [] (hp g) Q
  | .inr s => wp (ab_ext L xs) J_Sheet_indexOf 23 [(4, .int s)] [] (hp g) Q
noncomputable def b_Sheet_indexOf_3 (v0 : Nat) (v2 : Int32) (v3 : Int32) (v4 : Int32) (g : g_S) : Option ((Int32) ⊕ (Int32)) :=
  if v4 < v2 then
    (aI g 1 v0 v4).bind fun z1 =>
    if z1 = v3 then
      some (.inr v4)
    else
      some (.inl (v4 + 1))
  else
    some (.inr v4)
set_option maxRecDepth 20000 in
theorem y_Sheet_indexOf_3 {L : Nat} {xs : Nat → Int32} {Q : Option Value → ab_H → Prop} {v0 : Nat} {v2 : Int32} {v3 : Int32} {v4 : Int32} {g : g_S} {out : (Int32) ⊕ (Int32)} (e : b_Sheet_indexOf_3 v0 v2 v3 v4 g = some out) (c : cL_Sheet_indexOf_3 L xs Q v0 v2 v3 g out) : wp (ab_ext L xs) J_Sheet_indexOf 3 [(0, .ref v0), (2, .int v2), (3, .int v3), (4, .int v4)] [] (hp g) Q := by
  unfold b_Sheet_indexOf_3 at e
  refine wp_p (j := J_Sheet_indexOf) 2 (pc' := 6) (lv' := [(0, .ref v0), (2, .int v2), (3, .int v3), (4, .int v4)]) (st' := [.int v2, .int v4]) rfl ?_
  refine x_ge e rfl (fun e => ?_) (fun e => ?_)
  · refine wp_p (j := J_Sheet_indexOf) 2 (pc' := 12) (lv' := [(0, .ref v0), (2, .int v2), (3, .int v3), (4, .int v4)]) (st' := [.int v4, .ref v0]) rfl ?_
    refine x_aB e rfl (.inl rfl) rfl (fun z1 e => ?_)
    refine wp_p (j := J_Sheet_indexOf) 1 (pc' := 14) (lv' := [(0, .ref v0), (2, .int v2), (3, .int v3), (4, .int v4)]) (st' := [.int v3, .int z1]) rfl ?_
    refine x_eq e rfl (fun e => ?_) (fun e => ?_)
    · have e := Option.some.inj e; subst e; exact wp_lv (lv' := [(4, .int v4)]) rfl ⟨rfl, trivial⟩ c
    · refine wp_p (j := J_Sheet_indexOf) 2 (pc' := 3) (lv' := [(4, .int (v4 + 1)), (0, .ref v0), (2, .int v2), (3, .int v3)]) (st' := []) rfl ?_
      have e := Option.some.inj e; subst e; exact wp_lv (lv' := [(0, .ref v0), (2, .int v2), (3, .int v3), (4, .int (v4 + 1))]) rfl ⟨rfl, rfl, rfl, rfl, trivial⟩ c
  · have e := Option.some.inj e; subst e; exact wp_lv (lv' := [(4, .int v4)]) rfl ⟨rfl, trivial⟩ c
noncomputable def L_Sheet_indexOf_3 (v0 : Nat) (v2 : Int32) (v3 : Int32) (v4 : Int32) (g : g_S) : Option (Int32) := it (fun s : Int32 => b_Sheet_indexOf_3 v0 v2 v3 s g) (v4)
theorem l_Sheet_indexOf_3 {L : Nat} {xs : Nat → Int32} {Q : Option Value → ab_H → Prop} {v0 : Nat} {v2 : Int32} {v3 : Int32} {v4 : Int32} {g : g_S} {r : Int32} (e : L_Sheet_indexOf_3 v0 v2 v3 v4 g = some r) (c : cL_Sheet_indexOf_3 L xs Q v0 v2 v3 g (.inr r)) : wp (ab_ext L xs) J_Sheet_indexOf 3 [(0, .ref v0), (2, .int v2), (3, .int v3), (4, .int v4)] [] (hp g) Q :=
  it_wp (P := fun s : Int32 => wp (ab_ext L xs) J_Sheet_indexOf 3 [(0, .ref v0), (2, .int v2), (3, .int v3), (4, .int s)] [] (hp g) Q) (E := fun r => cL_Sheet_indexOf_3 L xs Q v0 v2 v3 g (.inr r)) (fun s out e c => y_Sheet_indexOf_3 e (by cases out <;> exact c)) e c
theorem L_Sheet_indexOf_3_eq (v0 : Nat) (v2 : Int32) (v3 : Int32) (v4 : Int32) (g : g_S) : L_Sheet_indexOf_3 v0 v2 v3 v4 g = itc (b_Sheet_indexOf_3 v0 v2 v3 v4 g) (fun s => L_Sheet_indexOf_3 v0 v2 v3 s g) := it_eq2 (fun s : Int32 => b_Sheet_indexOf_3 v0 v2 v3 s g) (v4)
noncomputable def M_Sheet_indexOf (v0 : Nat) (v1 : Int32) (v2 : Int32) (v3 : Int32) (g : g_S) : Option Int32 :=
  (L_Sheet_indexOf_3 v0 v2 v3 v1 g).bind <| fun z3 =>
  some z3
set_option maxRecDepth 20000 in
theorem d_Sheet_indexOf {L : Nat} {xs : Nat → Int32} {Q : Option Value → ab_H → Prop} {v0 : Nat} {v1 : Int32} {v2 : Int32} {v3 : Int32} {g : g_S} {out : Int32} (e : M_Sheet_indexOf v0 v1 v2 v3 g = some out) (c : Q (some (.int out)) (hp g)) : mw (ab_ext L xs) J_Sheet_indexOf [.ref v0, .int v1, .int v2, .int v3] (hp g) Q := by
  unfold M_Sheet_indexOf at e
  refine wp_p (j := J_Sheet_indexOf) 2 (pc' := 3) (lv' := [(4, .int v1), (0, .ref v0), (1, .int v1), (2, .int v2), (3, .int v3)]) (st' := []) rfl ?_
  obtain ⟨z3, h2, e⟩ := bd e
  refine wp_lv (lv' := [(0, .ref v0), (2, .int v2), (3, .int v3), (4, .int v1)]) rfl ⟨rfl, rfl, rfl, rfl, trivial⟩ ?_
  refine l_Sheet_indexOf_3 h2 ?_
  show wp (ab_ext L xs) J_Sheet_indexOf 23 [(4, .int z3)] [] (hp g) Q
  refine wp_p (j := J_Sheet_indexOf) 1 (pc' := 25) (lv' := [(4, .int z3)]) (st' := [.int z3]) rfl ?_
  have e := Option.some.inj e; subst e; exact wp_iret (ty := .int) rfl rfl rfl c
def cL_Sheet_trimBlanks_2 (L : Nat) (xs : Nat → Int32) (Q : Option Value → ab_H → Prop) (v0 : Nat) (v1 : Int32) (g : g_S) (out : (Int32) ⊕ (Int32)) : Prop := match out with
  | .inl s => wp (ab_ext L xs) J_Sheet_trimBlanks 2 [(0, .ref v0), (1, .int v1), (3, .int s)] [] (hp g) Q
  | .inr s => wp (ab_ext L xs) J_Sheet_trimBlanks 24 [(3, .int s)] [] (hp g) Q
noncomputable def b_Sheet_trimBlanks_2 (v0 : Nat) (v1 : Int32) (v3 : Int32) (g : g_S) : Option ((Int32) ⊕ (Int32)) :=
  if v1 < v3 then
    (aI g 1 v0 (v3 - 1)).bind fun z1 =>
    (M_Bytes_isBlank z1 g).bind fun z2 =>
    if z2 = 0 then
      some (.inr v3)
    else
      some (.inl (v3 + (-1)))
  else
    some (.inr v3)
set_option maxRecDepth 20000 in
theorem y_Sheet_trimBlanks_2 {L : Nat} {xs : Nat → Int32} {Q : Option Value → ab_H → Prop} {v0 : Nat} {v1 : Int32} {v3 : Int32} {g : g_S} {out : (Int32) ⊕ (Int32)} (e : b_Sheet_trimBlanks_2 v0 v1 v3 g = some out) (c : cL_Sheet_trimBlanks_2 L xs Q v0 v1 g out) : wp (ab_ext L xs) J_Sheet_trimBlanks 2 [(0, .ref v0), (1, .int v1), (3, .int v3)] [] (hp g) Q := by
  unfold b_Sheet_trimBlanks_2 at e
  refine wp_p (j := J_Sheet_trimBlanks) 2 (pc' := 4) (lv' := [(0, .ref v0), (1, .int v1), (3, .int v3)]) (st' := [.int v1, .int v3]) rfl ?_
  refine x_le e rfl (fun e => ?_) (fun e => ?_)
  · refine wp_p (j := J_Sheet_trimBlanks) 4 (pc' := 11) (lv' := [(0, .ref v0), (1, .int v1), (3, .int v3)]) (st' := [.int (v3 - 1), .ref v0]) rfl ?_
    refine x_aB e rfl (.inl rfl) rfl (fun z1 e => ?_)
    refine x_cs1 (As := [.int z1]) (rest := []) Value.int e rfl rfl rfl rfl rfl (fun h => d_Bytes_isBlank h ⟨rfl, rfl⟩) (fun z2 e => ?_)
    refine z_eq e rfl (fun e => ?_) (fun e => ?_)
    · have e := Option.some.inj e; subst e; exact wp_lv (lv' := [(3, .int v3)]) rfl ⟨rfl, trivial⟩ c
    · refine wp_p (j := J_Sheet_trimBlanks) 2 (pc' := 2) (lv' := [(3, .int (v3 + (-1))), (0, .ref v0), (1, .int v1)]) (st' := []) rfl ?_
      have e := Option.some.inj e; subst e; exact wp_lv (lv' := [(0, .ref v0), (1, .int v1), (3, .int (v3 + (-1)))]) rfl ⟨rfl, rfl, rfl, trivial⟩ c
  · have e := Option.some.inj e; subst e; exact wp_lv (lv' := [(3, .int v3)]) rfl ⟨rfl, trivial⟩ c
noncomputable def L_Sheet_trimBlanks_2 (v0 : Nat) (v1 : Int32) (v3 : Int32) (g : g_S) : Option (Int32) := it (fun s : Int32 => b_Sheet_trimBlanks_2 v0 v1 s g) (v3)
theorem l_Sheet_trimBlanks_2 {L : Nat} {xs : Nat → Int32} {Q : Option Value → ab_H → Prop} {v0 : Nat} {v1 : Int32} {v3 : Int32} {g : g_S} {r : Int32} (e : L_Sheet_trimBlanks_2 v0 v1 v3 g = some r) (c : cL_Sheet_trimBlanks_2 L xs Q v0 v1 g (.inr r)) : wp (ab_ext L xs) J_Sheet_trimBlanks 2 [(0, .ref v0), (1, .int v1), (3, .int v3)] [] (hp g) Q :=
  it_wp (P := fun s : Int32 => wp (ab_ext L xs) J_Sheet_trimBlanks 2 [(0, .ref v0), (1, .int v1), (3, .int s)] [] (hp g) Q) (E := fun r => cL_Sheet_trimBlanks_2 L xs Q v0 v1 g (.inr r)) (fun s out e c => y_Sheet_trimBlanks_2 e (by cases out <;> exact c)) e c
theorem L_Sheet_trimBlanks_2_eq (v0 : Nat) (v1 : Int32) (v3 : Int32) (g : g_S) : L_Sheet_trimBlanks_2 v0 v1 v3 g = itc (b_Sheet_trimBlanks_2 v0 v1 v3 g) (fun s => L_Sheet_trimBlanks_2 v0 v1 s g) := it_eq2 (fun s : Int32 => b_Sheet_trimBlanks_2 v0 v1 s g) (v3)
noncomputable def M_Sheet_trimBlanks (v0 : Nat) (v1 : Int32) (v2 : Int32) (g : g_S) : Option Int32 :=
  (L_Sheet_trimBlanks_2 v0 v1 v2 g).bind <| fun z3 =>
  some z3
set_option maxRecDepth 20000 in
theorem d_Sheet_trimBlanks {L : Nat} {xs : Nat → Int32} {Q : Option Value → ab_H → Prop} {v0 : Nat} {v1 : Int32} {v2 : Int32} {g : g_S} {out : Int32} (e : M_Sheet_trimBlanks v0 v1 v2 g = some out) (c : Q (some (.int out)) (hp g)) : mw (ab_ext L xs) J_Sheet_trimBlanks [.ref v0, .int v1, .int v2] (hp g) Q := by
  unfold M_Sheet_trimBlanks at e
  refine wp_p (j := J_Sheet_trimBlanks) 2 (pc' := 2) (lv' := [(3, .int v2), (0, .ref v0), (1, .int v1), (2, .int v2)]) (st' := []) rfl ?_
  obtain ⟨z3, h2, e⟩ := bd e
  refine wp_lv (lv' := [(0, .ref v0), (1, .int v1), (3, .int v2)]) rfl ⟨rfl, rfl, rfl, trivial⟩ ?_
  refine l_Sheet_trimBlanks_2 h2 ?_
  show wp (ab_ext L xs) J_Sheet_trimBlanks 24 [(3, .int z3)] [] (hp g) Q
  refine wp_p (j := J_Sheet_trimBlanks) 1 (pc' := 25) (lv' := [(3, .int z3)]) (st' := [.int z3]) rfl ?_
  have e := Option.some.inj e; subst e; exact wp_iret (ty := .int) rfl rfl rfl c
noncomputable def M_Sheet_takeSelector (v0 : Nat) (v1 : Nat) (v2 : Int32) (v3 : Int32) (v4 : Int32) (g : g_S) : Option (Int32 × g_S) :=
  (M_Sheet_skipBlanks v1 v2 v3 g).bind fun z1 =>
  (M_Sheet_trimBlanks v1 z1 v3 g).bind fun z2 =>
  c2 (vc g 109 v0 (M_Sheet_readSelector v0 v1 z1 z2 v4 g)) fun z3 g4 =>
  if z3 = (-1) then
    some (1, g4)
  else
    some (0, g4)
set_option maxRecDepth 20000 in
theorem d_Sheet_takeSelector {L : Nat} {xs : Nat → Int32} {Q : Option Value → ab_H → Prop} {v0 : Nat} {v1 : Nat} {v2 : Int32} {v3 : Int32} {v4 : Int32} {g : g_S} {out : Int32 × g_S} (e : M_Sheet_takeSelector v0 v1 v2 v3 v4 g = some out) (c : Q (some (.int out.1)) (hp out.2)) : mw (ab_ext L xs) J_Sheet_takeSelector [.ref v0, .ref v1, .int v2, .int v3, .int v4] (hp g) Q := by
  unfold M_Sheet_takeSelector at e
  refine wp_p (j := J_Sheet_takeSelector) 3 (pc' := 3) (lv' := [(0, .ref v0), (1, .ref v1), (2, .int v2), (3, .int v3), (4, .int v4)]) (st' := [.int v3, .int v2, .ref v1]) rfl ?_
  refine x_cs1 (As := [.ref v1, .int v2, .int v3]) (rest := []) Value.int e rfl rfl rfl rfl rfl (fun h => d_Sheet_skipBlanks h ⟨rfl, rfl⟩) (fun z1 e => ?_)
  refine wp_p (j := J_Sheet_takeSelector) 7 (pc' := 16) (lv' := [(5, .int z1), (0, .ref v0), (1, .ref v1), (2, .int v2), (3, .int v3), (4, .int v4)]) (st' := [.int v3, .int z1, .ref v1, .int z1, .ref v1, .ref v0]) rfl ?_
  refine x_cs1 (As := [.ref v1, .int z1, .int v3]) (rest := [.int z1, .ref v1, .ref v0]) Value.int e rfl rfl rfl rfl rfl (fun h => d_Sheet_trimBlanks h ⟨rfl, rfl⟩) (fun z2 e => ?_)
  refine wp_p (j := J_Sheet_takeSelector) 1 (pc' := 21) (lv' := [(5, .int z1), (0, .ref v0), (1, .ref v1), (2, .int v2), (3, .int v3), (4, .int v4)]) (st' := [.int v4, .int z2, .int z1, .ref v1, .ref v0]) rfl ?_
  refine x_cv2 (As := [.ref v1, .int z1, .int z2, .int v4]) (rest := []) Value.int e rfl rfl rfl rfl rfl rfl (fun h => d_Sheet_readSelector h ⟨rfl, rfl⟩) (fun z3 g4 e => ?_)
  refine wp_p (j := J_Sheet_takeSelector) 1 (pc' := 25) (lv' := [(5, .int z1), (0, .ref v0), (1, .ref v1), (2, .int v2), (3, .int v3), (4, .int v4)]) (st' := [.int (-1), .int z3]) rfl ?_
  refine x_ne e rfl (fun e => ?_) (fun e => ?_)
  · refine wp_p (j := J_Sheet_takeSelector) 2 (pc' := 33) (lv' := [(5, .int z1), (0, .ref v0), (1, .ref v1), (2, .int v2), (3, .int v3), (4, .int v4)]) (st' := [.int 1]) rfl ?_
    have e := Option.some.inj e; subst e; exact wp_iret (ty := .boolean) rfl rfl (by decide) c
  · refine wp_p (j := J_Sheet_takeSelector) 1 (pc' := 33) (lv' := [(5, .int z1), (0, .ref v0), (1, .ref v1), (2, .int v2), (3, .int v3), (4, .int v4)]) (st' := [.int 0]) rfl ?_
    have e := Option.some.inj e; subst e; exact wp_iret (ty := .boolean) rfl rfl (by decide) c
def cL_Sheet_areSelectors_6 (L : Nat) (xs : Nat → Int32) (Q : Option Value → ab_H → Prop) (v0 : Nat) (v1 : Nat) (v3 : Int32) (out : (Int32 × Int32 × g_S) ⊕ ((g_S) ⊕ (g_S))) : Prop := match out with
  | .inl s => wp (ab_ext L xs) J_Sheet_areSelectors 6 [(0, .ref v0), (1, .ref v1), (3, .int v3), (4, .int s.1), (5, .int s.2.1)] [] (hp s.2.2) Q
  | .inr (.inl s) => wp (ab_ext L xs) J_Sheet_areSelectors 43 [] [] (hp s) Q
  | .inr (.inr s) => wp (ab_ext L xs) J_Sheet_areSelectors 57 [] [] (hp s) Q
noncomputable def b_Sheet_areSelectors_6 (v0 : Nat) (v1 : Nat) (v3 : Int32) (v4 : Int32) (v5 : Int32) (g : g_S) : Option ((Int32 × Int32 × g_S) ⊕ ((g_S) ⊕ (g_S))) :=
  if v3 < v5 then
    some (.inr (.inr g))
  else
    if v3 < v4 then
      some (.inr (.inr g))
    else
      (M_Sheet_indexOf v1 v4 v3 44 g).bind fun z1 =>
      c2 (vc g 109 v0 (M_Sheet_takeSelector v0 v1 v4 z1 40 g)) fun z2 g3 =>
      if z2 = 0 then
        some (.inr (.inl g3))
      else
        some (.inl (z1 + 1, v5 + 1, g3))
set_option maxRecDepth 20000 in
theorem y_Sheet_areSelectors_6 {L : Nat} {xs : Nat → Int32} {Q : Option Value → ab_H → Prop} {v0 : Nat} {v1 : Nat} {v3 : Int32} {v4 : Int32} {v5 : Int32} {g : g_S} {out : (Int32 × Int32 × g_S) ⊕ ((g_S) ⊕ (g_S))} (e : b_Sheet_areSelectors_6 v0 v1 v3 v4 v5 g = some out) (c : cL_Sheet_areSelectors_6 L xs Q v0 v1 v3 out) : wp (ab_ext L xs) J_Sheet_areSelectors 6 [(0, .ref v0), (1, .ref v1), (3, .int v3), (4, .int v4), (5, .int v5)] [] (hp g) Q := by
  unfold b_Sheet_areSelectors_6 at e
  refine wp_p (j := J_Sheet_areSelectors) 2 (pc' := 9) (lv' := [(0, .ref v0), (1, .ref v1), (3, .int v3), (4, .int v4), (5, .int v5)]) (st' := [.int v3, .int v5]) rfl ?_
  refine x_gt e rfl (fun e => ?_) (fun e => ?_)
  · have e := Option.some.inj e; subst e; exact wp_lv (lv' := []) rfl trivial c
  · refine wp_p (j := J_Sheet_areSelectors) 2 (pc' := 15) (lv' := [(0, .ref v0), (1, .ref v1), (3, .int v3), (4, .int v4), (5, .int v5)]) (st' := [.int v3, .int v4]) rfl ?_
    refine x_gt e rfl (fun e => ?_) (fun e => ?_)
    · have e := Option.some.inj e; subst e; exact wp_lv (lv' := []) rfl trivial c
    · refine wp_p (j := J_Sheet_areSelectors) 4 (pc' := 24) (lv' := [(0, .ref v0), (1, .ref v1), (3, .int v3), (4, .int v4), (5, .int v5)]) (st' := [.int 44, .int v3, .int v4, .ref v1]) rfl ?_
      refine x_cs1 (As := [.ref v1, .int v4, .int v3, .int 44]) (rest := []) Value.int e rfl rfl rfl rfl rfl (fun h => d_Sheet_indexOf h ⟨rfl, rfl⟩) (fun z1 e => ?_)
      refine wp_p (j := J_Sheet_areSelectors) 6 (pc' := 37) (lv' := [(6, .int z1), (0, .ref v0), (1, .ref v1), (3, .int v3), (4, .int v4), (5, .int v5)]) (st' := [.int 40, .int z1, .int v4, .ref v1, .ref v0]) rfl ?_
      refine x_cv2 (As := [.ref v1, .int v4, .int z1, .int 40]) (rest := []) Value.int e rfl rfl rfl rfl rfl rfl (fun h => d_Sheet_takeSelector h ⟨rfl, rfl⟩) (fun z2 g3 e => ?_)
      refine z_ne e rfl (fun e => ?_) (fun e => ?_)
      · have e := Option.some.inj e; subst e; exact wp_lv (lv' := []) rfl trivial c
      · refine wp_p (j := J_Sheet_areSelectors) 6 (pc' := 6) (lv' := [(5, .int (v5 + 1)), (4, .int (z1 + 1)), (6, .int z1), (0, .ref v0), (1, .ref v1), (3, .int v3)]) (st' := []) rfl ?_
        have e := Option.some.inj e; subst e; exact wp_lv (lv' := [(0, .ref v0), (1, .ref v1), (3, .int v3), (4, .int (z1 + 1)), (5, .int (v5 + 1))]) rfl ⟨rfl, rfl, rfl, rfl, rfl, trivial⟩ c
noncomputable def L_Sheet_areSelectors_6 (v0 : Nat) (v1 : Nat) (v3 : Int32) (v4 : Int32) (v5 : Int32) (g : g_S) : Option ((g_S) ⊕ (g_S)) := it (fun s : Int32 × Int32 × g_S => b_Sheet_areSelectors_6 v0 v1 v3 s.1 s.2.1 s.2.2) (v4, v5, g)
theorem l_Sheet_areSelectors_6 {L : Nat} {xs : Nat → Int32} {Q : Option Value → ab_H → Prop} {v0 : Nat} {v1 : Nat} {v3 : Int32} {v4 : Int32} {v5 : Int32} {g : g_S} {r : (g_S) ⊕ (g_S)} (e : L_Sheet_areSelectors_6 v0 v1 v3 v4 v5 g = some r) (c : cL_Sheet_areSelectors_6 L xs Q v0 v1 v3 (.inr r)) : wp (ab_ext L xs) J_Sheet_areSelectors 6 [(0, .ref v0), (1, .ref v1), (3, .int v3), (4, .int v4), (5, .int v5)] [] (hp g) Q :=
  it_wp (P := fun s : Int32 × Int32 × g_S => wp (ab_ext L xs) J_Sheet_areSelectors 6 [(0, .ref v0), (1, .ref v1), (3, .int v3), (4, .int s.1), (5, .int s.2.1)] [] (hp s.2.2) Q) (E := fun r => cL_Sheet_areSelectors_6 L xs Q v0 v1 v3 (.inr r)) (fun s out e c => y_Sheet_areSelectors_6 e (by cases out <;> exact c)) e c
theorem L_Sheet_areSelectors_6_eq (v0 : Nat) (v1 : Nat) (v3 : Int32) (v4 : Int32) (v5 : Int32) (g : g_S) : L_Sheet_areSelectors_6 v0 v1 v3 v4 v5 g = itc (b_Sheet_areSelectors_6 v0 v1 v3 v4 v5 g) (fun s => L_Sheet_areSelectors_6 v0 v1 v3 s.1 s.2.1 s.2.2) := it_eq2 (fun s : Int32 × Int32 × g_S => b_Sheet_areSelectors_6 v0 v1 v3 s.1 s.2.1 s.2.2) (v4, v5, g)
noncomputable def M_Sheet_areSelectors (v0 : Nat) (v1 : Nat) (v2 : Int32) (v3 : Int32) (g : g_S) : Option (Int32 × g_S) :=
  (L_Sheet_areSelectors_6 v0 v1 v3 v2 v2 g).bind <|
    us (fun g3 =>
    some (0, g3))
    (fun g4 =>
    some (1, g4))
set_option maxRecDepth 20000 in
theorem d_Sheet_areSelectors {L : Nat} {xs : Nat → Int32} {Q : Option Value → ab_H → Prop} {v0 : Nat} {v1 : Nat} {v2 : Int32} {v3 : Int32} {g : g_S} {out : Int32 × g_S} (e : M_Sheet_areSelectors v0 v1 v2 v3 g = some out) (c : Q (some (.int out.1)) (hp out.2)) : mw (ab_ext L xs) J_Sheet_areSelectors [.ref v0, .ref v1, .int v2, .int v3] (hp g) Q := by
  unfold M_Sheet_areSelectors at e
  refine wp_p (j := J_Sheet_areSelectors) 4 (pc' := 6) (lv' := [(5, .int v2), (4, .int v2), (0, .ref v0), (1, .ref v1), (2, .int v2), (3, .int v3)]) (st' := []) rfl ?_
  obtain ⟨s1, h2, e⟩ := bd e
  refine wp_lv (lv' := [(0, .ref v0), (1, .ref v1), (3, .int v3), (4, .int v2), (5, .int v2)]) rfl ⟨rfl, rfl, rfl, rfl, rfl, trivial⟩ ?_
  refine l_Sheet_areSelectors_6 h2 ?_
  rcases s1 with g3 | g4
  · replace e := (us_l e)
    show wp (ab_ext L xs) J_Sheet_areSelectors 43 [] [] (hp g3) Q
    refine wp_p (j := J_Sheet_areSelectors) 1 (pc' := 44) (lv' := []) (st' := [.int 0]) rfl ?_
    have e := Option.some.inj e; subst e; exact wp_iret (ty := .boolean) rfl rfl (by decide) c
  · replace e := (us_r e)
    show wp (ab_ext L xs) J_Sheet_areSelectors 57 [] [] (hp g4) Q
    refine wp_p (j := J_Sheet_areSelectors) 1 (pc' := 58) (lv' := []) (st' := [.int 1]) rfl ?_
    have e := Option.some.inj e; subst e; exact wp_iret (ty := .boolean) rfl rfl (by decide) c
noncomputable def M_Arrays_rangeCheck (v0 : Int32) (v1 : Int32) (v2 : Int32) (g : g_S) : Option g_S :=
  if v2 < v1 then
    none
  else
    if v1 < 0 then
      none
    else
      if v0 < v2 then
        none
      else
        some g
set_option maxRecDepth 20000 in
theorem d_Arrays_rangeCheck {L : Nat} {xs : Nat → Int32} {Q : Option Value → ab_H → Prop} {v0 : Int32} {v1 : Int32} {v2 : Int32} {g : g_S} {out : g_S} (e : M_Arrays_rangeCheck v0 v1 v2 g = some out) (c : Q none (hp out)) : mw (ab_ext L xs) J_Arrays_rangeCheck [.int v0, .int v1, .int v2] (hp g) Q := by
  unfold M_Arrays_rangeCheck at e
  refine wp_p (j := J_Arrays_rangeCheck) 2 (pc' := 2) (lv' := [(0, .int v0), (1, .int v1), (2, .int v2)]) (st' := [.int v2, .int v1]) rfl ?_
  refine x_le e rfl (fun e => ?_) (fun e => ?_)
  · cases e
  · refine wp_p (j := J_Arrays_rangeCheck) 1 (pc' := 47) (lv' := [(0, .int v0), (1, .int v1), (2, .int v2)]) (st' := [.int v1]) rfl ?_
    refine z_ge e rfl (fun e => ?_) (fun e => ?_)
    · cases e
    · refine wp_p (j := J_Arrays_rangeCheck) 2 (pc' := 61) (lv' := [(0, .int v0), (1, .int v1), (2, .int v2)]) (st' := [.int v0, .int v2]) rfl ?_
      refine x_le e rfl (fun e => ?_) (fun e => ?_)
      · cases e
      · have e := Option.some.inj e; subst e; exact wp_vret rfl rfl c
def cL_Arrays_fill_10 (L : Nat) (xs : Nat → Int32) (Q : Option Value → ab_H → Prop) (v0 : Nat) (v2 : Int32) (v3 : Int32) (out : (Int32 × g_S) ⊕ (g_S)) : Prop := match out with
  | .inl s => wp (ab_ext L xs) J_Arrays_fill 10 [(0, .ref v0), (2, .int v2), (3, .int v3), (4, .int s.1)] [] (hp s.2) Q
  | .inr s => wp (ab_ext L xs) J_Arrays_fill 27 [] [] (hp s) Q
noncomputable def b_Arrays_fill_10 (v0 : Nat) (v2 : Int32) (v3 : Int32) (v4 : Int32) (g : g_S) : Option ((Int32 × g_S) ⊕ (g_S)) :=
  if v4 < v2 then
    (sI g v0 v4 v3).bind fun g1 =>
    some (.inl (v4 + 1, g1))
  else
    some (.inr g)
set_option maxRecDepth 20000 in
theorem y_Arrays_fill_10 {L : Nat} {xs : Nat → Int32} {Q : Option Value → ab_H → Prop} {v0 : Nat} {v2 : Int32} {v3 : Int32} {v4 : Int32} {g : g_S} {out : (Int32 × g_S) ⊕ (g_S)} (e : b_Arrays_fill_10 v0 v2 v3 v4 g = some out) (c : cL_Arrays_fill_10 L xs Q v0 v2 v3 out) : wp (ab_ext L xs) J_Arrays_fill 10 [(0, .ref v0), (2, .int v2), (3, .int v3), (4, .int v4)] [] (hp g) Q := by
  unfold b_Arrays_fill_10 at e
  refine wp_p (j := J_Arrays_fill) 2 (pc' := 13) (lv' := [(0, .ref v0), (2, .int v2), (3, .int v3), (4, .int v4)]) (st' := [.int v2, .int v4]) rfl ?_
  refine x_ge e rfl (fun e => ?_) (fun e => ?_)
  · refine wp_p (j := J_Arrays_fill) 3 (pc' := 20) (lv' := [(0, .ref v0), (2, .int v2), (3, .int v3), (4, .int v4)]) (st' := [.int v3, .int v4, .ref v0]) rfl ?_
    refine x_sI e rfl rfl (fun g1 e => ?_)
    refine wp_p (j := J_Arrays_fill) 2 (pc' := 10) (lv' := [(4, .int (v4 + 1)), (0, .ref v0), (2, .int v2), (3, .int v3)]) (st' := []) rfl ?_
    have e := Option.some.inj e; subst e; exact wp_lv (lv' := [(0, .ref v0), (2, .int v2), (3, .int v3), (4, .int (v4 + 1))]) rfl ⟨rfl, rfl, rfl, rfl, trivial⟩ c
  · have e := Option.some.inj e; subst e; exact wp_lv (lv' := []) rfl trivial c
noncomputable def L_Arrays_fill_10 (v0 : Nat) (v2 : Int32) (v3 : Int32) (v4 : Int32) (g : g_S) : Option (g_S) := it (fun s : Int32 × g_S => b_Arrays_fill_10 v0 v2 v3 s.1 s.2) (v4, g)
theorem l_Arrays_fill_10 {L : Nat} {xs : Nat → Int32} {Q : Option Value → ab_H → Prop} {v0 : Nat} {v2 : Int32} {v3 : Int32} {v4 : Int32} {g : g_S} {r : g_S} (e : L_Arrays_fill_10 v0 v2 v3 v4 g = some r) (c : cL_Arrays_fill_10 L xs Q v0 v2 v3 (.inr r)) : wp (ab_ext L xs) J_Arrays_fill 10 [(0, .ref v0), (2, .int v2), (3, .int v3), (4, .int v4)] [] (hp g) Q :=
  it_wp (P := fun s : Int32 × g_S => wp (ab_ext L xs) J_Arrays_fill 10 [(0, .ref v0), (2, .int v2), (3, .int v3), (4, .int s.1)] [] (hp s.2) Q) (E := fun r => cL_Arrays_fill_10 L xs Q v0 v2 v3 (.inr r)) (fun s out e c => y_Arrays_fill_10 e (by cases out <;> exact c)) e c
theorem L_Arrays_fill_10_eq (v0 : Nat) (v2 : Int32) (v3 : Int32) (v4 : Int32) (g : g_S) : L_Arrays_fill_10 v0 v2 v3 v4 g = itc (b_Arrays_fill_10 v0 v2 v3 v4 g) (fun s => L_Arrays_fill_10 v0 v2 v3 s.1 s.2) := it_eq2 (fun s : Int32 × g_S => b_Arrays_fill_10 v0 v2 v3 s.1 s.2) (v4, g)
noncomputable def M_Arrays_fill (v0 : Nat) (v1 : Int32) (v2 : Int32) (v3 : Int32) (g : g_S) : Option g_S :=
  (aN g v0).bind fun z1 =>
  (M_Arrays_rangeCheck z1 v1 v2 g).bind fun g2 =>
  (L_Arrays_fill_10 v0 v2 v3 v1 g2).bind <| fun g5 =>
  some g5
set_option maxRecDepth 20000 in
theorem d_Arrays_fill {L : Nat} {xs : Nat → Int32} {Q : Option Value → ab_H → Prop} {v0 : Nat} {v1 : Int32} {v2 : Int32} {v3 : Int32} {g : g_S} {out : g_S} (e : M_Arrays_fill v0 v1 v2 v3 g = some out) (c : Q none (hp out)) : mw (ab_ext L xs) J_Arrays_fill [.ref v0, .int v1, .int v2, .int v3] (hp g) Q := by
  unfold M_Arrays_fill at e
  refine wp_p (j := J_Arrays_fill) 1 (pc' := 1) (lv' := [(0, .ref v0), (1, .int v1), (2, .int v2), (3, .int v3)]) (st' := [.ref v0]) rfl ?_
  refine x_aN e rfl rfl (fun z1 e => ?_)
  refine wp_p (j := J_Arrays_fill) 2 (pc' := 4) (lv' := [(0, .ref v0), (1, .int v1), (2, .int v2), (3, .int v3)]) (st' := [.int v2, .int v1, .int z1]) rfl ?_
  refine x_cs0 (As := [.int z1, .int v1, .int v2]) (rest := []) e rfl rfl rfl rfl rfl (fun h => d_Arrays_rangeCheck h ⟨rfl, rfl⟩) (fun g2 e => ?_)
  refine wp_p (j := J_Arrays_fill) 2 (pc' := 10) (lv' := [(4, .int v1), (0, .ref v0), (1, .int v1), (2, .int v2), (3, .int v3)]) (st' := []) rfl ?_
  obtain ⟨g5, h4, e⟩ := bd e
  refine wp_lv (lv' := [(0, .ref v0), (2, .int v2), (3, .int v3), (4, .int v1)]) rfl ⟨rfl, rfl, rfl, rfl, trivial⟩ ?_
  refine l_Arrays_fill_10 h4 ?_
  show wp (ab_ext L xs) J_Arrays_fill 27 [] [] (hp g5) Q
  have e := Option.some.inj e; subst e; exact wp_vret rfl rfl c
noncomputable def M_Bytes_isSmall (v0 : Int32) (g : g_S) : Option Int32 :=
  if v0 < 97 then
    some 0
  else
    if 122 < v0 then
      some 0
    else
      some 1
set_option maxRecDepth 20000 in
theorem d_Bytes_isSmall {L : Nat} {xs : Nat → Int32} {Q : Option Value → ab_H → Prop} {v0 : Int32} {g : g_S} {out : Int32} (e : M_Bytes_isSmall v0 g = some out) (c : Q (some (.int out)) (hp g)) : mw (ab_ext L xs) J_Bytes_isSmall [.int v0] (hp g) Q := by
  unfold M_Bytes_isSmall at e
  refine wp_p (j := J_Bytes_isSmall) 2 (pc' := 3) (lv' := [(0, .int v0)]) (st' := [.int 97, .int v0]) rfl ?_
  refine x_lt e rfl (fun e => ?_) (fun e => ?_)
  · refine wp_p (j := J_Bytes_isSmall) 1 (pc' := 17) (lv' := [(0, .int v0)]) (st' := [.int 0]) rfl ?_
    have e := Option.some.inj e; subst e; exact wp_iret (ty := .boolean) rfl rfl (by decide) c
  · refine wp_p (j := J_Bytes_isSmall) 2 (pc' := 9) (lv' := [(0, .int v0)]) (st' := [.int 122, .int v0]) rfl ?_
    refine x_gt e rfl (fun e => ?_) (fun e => ?_)
    · refine wp_p (j := J_Bytes_isSmall) 1 (pc' := 17) (lv' := [(0, .int v0)]) (st' := [.int 0]) rfl ?_
      have e := Option.some.inj e; subst e; exact wp_iret (ty := .boolean) rfl rfl (by decide) c
    · refine wp_p (j := J_Bytes_isSmall) 2 (pc' := 17) (lv' := [(0, .int v0)]) (st' := [.int 1]) rfl ?_
      have e := Option.some.inj e; subst e; exact wp_iret (ty := .boolean) rfl rfl (by decide) c
noncomputable def k_Sheet_readValue_98 (v0 : Int32) (v1 : Nat) (v2 : Int32) (v3 : Int32) (g : g_S) : Option Int32 :=
  (M_Bytes_number v1 v2 v3 g).bind fun z1 =>
  (tS g 2000001 v0).bind fun z2 =>
  if z1 < z2 then
    some (-1)
  else
    (tS g 2000002 v0).bind fun z3 =>
    if z3 < z1 then
      some (-1)
    else
      some z1
set_option maxRecDepth 20000 in
theorem x_Sheet_readValue_98 {L : Nat} {xs : Nat → Int32} {Q : Option Value → ab_H → Prop} {v0 : Int32} {v1 : Nat} {v2 : Int32} {v3 : Int32} {g : g_S} {out : Int32} (e : k_Sheet_readValue_98 v0 v1 v2 v3 g = some out) (c : Q (some (.int out)) (hp g)) : wp (ab_ext L xs) J_Sheet_readValue 98 [(0, .int v0), (1, .ref v1), (2, .int v2), (3, .int v3)] [] (hp g) Q := by
  unfold k_Sheet_readValue_98 at e
  refine wp_p (j := J_Sheet_readValue) 3 (pc' := 101) (lv' := [(0, .int v0), (1, .ref v1), (2, .int v2), (3, .int v3)]) (st' := [.int v3, .int v2, .ref v1]) rfl ?_
  refine x_cs1 (As := [.ref v1, .int v2, .int v3]) (rest := []) Value.int e rfl rfl rfl rfl rfl (fun h => d_Bytes_number h ⟨rfl, rfl⟩) (fun z1 e => ?_)
  refine wp_p (j := J_Sheet_readValue) 2 (pc' := 108) (lv' := [(4, .int z1), (0, .int v0), (1, .ref v1), (2, .int v2), (3, .int v3)]) (st' := [.int z1]) rfl ?_
  refine x_gs rfl rfl ?_
  refine wp_p (j := J_Sheet_readValue) 1 (pc' := 112) (lv' := [(4, .int z1), (0, .int v0), (1, .ref v1), (2, .int v2), (3, .int v3)]) (st' := [.int v0, .ref 2000001, .int z1]) rfl ?_
  refine x_tS e rfl rfl (fun z2 e => ?_)
  refine x_lt e rfl (fun e => ?_) (fun e => ?_)
  · refine wp_p (j := J_Sheet_readValue) 1 (pc' := 132) (lv' := [(4, .int z1), (0, .int v0), (1, .ref v1), (2, .int v2), (3, .int v3)]) (st' := [.int (-1)]) rfl ?_
    have e := Option.some.inj e; subst e; exact wp_iret (ty := .int) rfl rfl rfl c
  · refine wp_p (j := J_Sheet_readValue) 1 (pc' := 118) (lv' := [(4, .int z1), (0, .int v0), (1, .ref v1), (2, .int v2), (3, .int v3)]) (st' := [.int z1]) rfl ?_
    refine x_gs rfl rfl ?_
    refine wp_p (j := J_Sheet_readValue) 1 (pc' := 122) (lv' := [(4, .int z1), (0, .int v0), (1, .ref v1), (2, .int v2), (3, .int v3)]) (st' := [.int v0, .ref 2000002, .int z1]) rfl ?_
    refine x_tS e rfl rfl (fun z3 e => ?_)
    refine x_gt e rfl (fun e => ?_) (fun e => ?_)
    · refine wp_p (j := J_Sheet_readValue) 1 (pc' := 132) (lv' := [(4, .int z1), (0, .int v0), (1, .ref v1), (2, .int v2), (3, .int v3)]) (st' := [.int (-1)]) rfl ?_
      have e := Option.some.inj e; subst e; exact wp_iret (ty := .int) rfl rfl rfl c
    · refine wp_p (j := J_Sheet_readValue) 2 (pc' := 132) (lv' := [(4, .int z1), (0, .int v0), (1, .ref v1), (2, .int v2), (3, .int v3)]) (st' := [.int z1]) rfl ?_
      have e := Option.some.inj e; subst e; exact wp_iret (ty := .int) rfl rfl rfl c
noncomputable def M_Sheet_readValue (v0 : Int32) (v1 : Nat) (v2 : Int32) (v3 : Int32) (g : g_S) : Option Int32 :=
  if v0 = 0 then
    (M_Bytes_wordPlace 1000039 v1 v2 v3 g).bind fun z1 =>
    some z1
  else
    if v0 = 9 then
      (M_Bytes_wordPlace 1000040 v1 v2 v3 g).bind fun z2 =>
      some z2
    else
      if v0 = 10 then
        (M_Bytes_wordPlace 1000041 v1 v2 v3 g).bind fun z3 =>
        some z3
      else
        if v0 = 6 then
          if v2 < v3 then
            (aI g 1 v1 (v3 - 1)).bind fun z4 =>
            if z4 = 37 then
              (M_Bytes_number v1 v2 (v3 - 1) g).bind fun z5 =>
              if z5 < 1 then
                some (-1)
              else
                if 100 < z5 then
                  some (-1)
                else
                  some (1000 + z5)
            else
              k_Sheet_readValue_98 v0 v1 v2 v3 g
          else
            k_Sheet_readValue_98 v0 v1 v2 v3 g
        else
          k_Sheet_readValue_98 v0 v1 v2 v3 g
set_option maxRecDepth 20000 in
theorem d_Sheet_readValue {L : Nat} {xs : Nat → Int32} {Q : Option Value → ab_H → Prop} {v0 : Int32} {v1 : Nat} {v2 : Int32} {v3 : Int32} {g : g_S} {out : Int32} (e : M_Sheet_readValue v0 v1 v2 v3 g = some out) (c : Q (some (.int out)) (hp g)) : mw (ab_ext L xs) J_Sheet_readValue [.int v0, .ref v1, .int v2, .int v3] (hp g) Q := by
  unfold M_Sheet_readValue at e
  refine wp_p (j := J_Sheet_readValue) 1 (pc' := 1) (lv' := [(0, .int v0), (1, .ref v1), (2, .int v2), (3, .int v3)]) (st' := [.int v0]) rfl ?_
  refine z_ne e rfl (fun e => ?_) (fun e => ?_)
  · refine x_ls rfl rfl ?_
    refine wp_p (j := J_Sheet_readValue) 3 (pc' := 9) (lv' := [(0, .int v0), (1, .ref v1), (2, .int v2), (3, .int v3)]) (st' := [.int v3, .int v2, .ref v1, .ref 1000039]) rfl ?_
    refine x_cs1 (As := [.ref 1000039, .ref v1, .int v2, .int v3]) (rest := []) Value.int e rfl rfl rfl rfl rfl (fun h => d_Bytes_wordPlace h ⟨rfl, rfl⟩) (fun z1 e => ?_)
    have e := Option.some.inj e; subst e; exact wp_iret (ty := .int) rfl rfl rfl c
  · refine wp_p (j := J_Sheet_readValue) 2 (pc' := 16) (lv' := [(0, .int v0), (1, .ref v1), (2, .int v2), (3, .int v3)]) (st' := [.int 9, .int v0]) rfl ?_
    refine x_ne e rfl (fun e => ?_) (fun e => ?_)
    · refine x_ls rfl rfl ?_
      refine wp_p (j := J_Sheet_readValue) 3 (pc' := 24) (lv' := [(0, .int v0), (1, .ref v1), (2, .int v2), (3, .int v3)]) (st' := [.int v3, .int v2, .ref v1, .ref 1000040]) rfl ?_
      refine x_cs1 (As := [.ref 1000040, .ref v1, .int v2, .int v3]) (rest := []) Value.int e rfl rfl rfl rfl rfl (fun h => d_Bytes_wordPlace h ⟨rfl, rfl⟩) (fun z2 e => ?_)
      have e := Option.some.inj e; subst e; exact wp_iret (ty := .int) rfl rfl rfl c
    · refine wp_p (j := J_Sheet_readValue) 2 (pc' := 31) (lv' := [(0, .int v0), (1, .ref v1), (2, .int v2), (3, .int v3)]) (st' := [.int 10, .int v0]) rfl ?_
      refine x_ne e rfl (fun e => ?_) (fun e => ?_)
      · refine x_ls rfl rfl ?_
        refine wp_p (j := J_Sheet_readValue) 3 (pc' := 39) (lv' := [(0, .int v0), (1, .ref v1), (2, .int v2), (3, .int v3)]) (st' := [.int v3, .int v2, .ref v1, .ref 1000041]) rfl ?_
        refine x_cs1 (As := [.ref 1000041, .ref v1, .int v2, .int v3]) (rest := []) Value.int e rfl rfl rfl rfl rfl (fun h => d_Bytes_wordPlace h ⟨rfl, rfl⟩) (fun z3 e => ?_)
        have e := Option.some.inj e; subst e; exact wp_iret (ty := .int) rfl rfl rfl c
      · refine wp_p (j := J_Sheet_readValue) 2 (pc' := 46) (lv' := [(0, .int v0), (1, .ref v1), (2, .int v2), (3, .int v3)]) (st' := [.int 6, .int v0]) rfl ?_
        refine x_ne e rfl (fun e => ?_) (fun e => ?_)
        · refine wp_p (j := J_Sheet_readValue) 2 (pc' := 51) (lv' := [(0, .int v0), (1, .ref v1), (2, .int v2), (3, .int v3)]) (st' := [.int v2, .int v3]) rfl ?_
          refine x_le e rfl (fun e => ?_) (fun e => ?_)
          · refine wp_p (j := J_Sheet_readValue) 4 (pc' := 58) (lv' := [(0, .int v0), (1, .ref v1), (2, .int v2), (3, .int v3)]) (st' := [.int (v3 - 1), .ref v1]) rfl ?_
            refine x_aB e rfl (.inl rfl) rfl (fun z4 e => ?_)
            refine wp_p (j := J_Sheet_readValue) 1 (pc' := 61) (lv' := [(0, .int v0), (1, .ref v1), (2, .int v2), (3, .int v3)]) (st' := [.int 37, .int z4]) rfl ?_
            refine x_ne e rfl (fun e => ?_) (fun e => ?_)
            · refine wp_p (j := J_Sheet_readValue) 5 (pc' := 69) (lv' := [(0, .int v0), (1, .ref v1), (2, .int v2), (3, .int v3)]) (st' := [.int (v3 - 1), .int v2, .ref v1]) rfl ?_
              refine x_cs1 (As := [.ref v1, .int v2, .int (v3 - 1)]) (rest := []) Value.int e rfl rfl rfl rfl rfl (fun h => d_Bytes_number h ⟨rfl, rfl⟩) (fun z5 e => ?_)
              refine wp_p (j := J_Sheet_readValue) 3 (pc' := 77) (lv' := [(4, .int z5), (0, .int v0), (1, .ref v1), (2, .int v2), (3, .int v3)]) (st' := [.int 1, .int z5]) rfl ?_
              refine x_lt e rfl (fun e => ?_) (fun e => ?_)
              · refine wp_p (j := J_Sheet_readValue) 1 (pc' := 97) (lv' := [(4, .int z5), (0, .int v0), (1, .ref v1), (2, .int v2), (3, .int v3)]) (st' := [.int (-1)]) rfl ?_
                have e := Option.some.inj e; subst e; exact wp_iret (ty := .int) rfl rfl rfl c
              · refine wp_p (j := J_Sheet_readValue) 2 (pc' := 84) (lv' := [(4, .int z5), (0, .int v0), (1, .ref v1), (2, .int v2), (3, .int v3)]) (st' := [.int 100, .int z5]) rfl ?_
                refine x_gt e rfl (fun e => ?_) (fun e => ?_)
                · refine wp_p (j := J_Sheet_readValue) 1 (pc' := 97) (lv' := [(4, .int z5), (0, .int v0), (1, .ref v1), (2, .int v2), (3, .int v3)]) (st' := [.int (-1)]) rfl ?_
                  have e := Option.some.inj e; subst e; exact wp_iret (ty := .int) rfl rfl rfl c
                · refine wp_p (j := J_Sheet_readValue) 4 (pc' := 97) (lv' := [(4, .int z5), (0, .int v0), (1, .ref v1), (2, .int v2), (3, .int v3)]) (st' := [.int (1000 + z5)]) rfl ?_
                  have e := Option.some.inj e; subst e; exact wp_iret (ty := .int) rfl rfl rfl c
            · exact wp_lv (lv' := [(0, .int v0), (1, .ref v1), (2, .int v2), (3, .int v3)]) rfl ⟨rfl, rfl, rfl, rfl, trivial⟩ (x_Sheet_readValue_98 e c)
          · exact wp_lv (lv' := [(0, .int v0), (1, .ref v1), (2, .int v2), (3, .int v3)]) rfl ⟨rfl, rfl, rfl, rfl, trivial⟩ (x_Sheet_readValue_98 e c)
        · exact wp_lv (lv' := [(0, .int v0), (1, .ref v1), (2, .int v2), (3, .int v3)]) rfl ⟨rfl, rfl, rfl, rfl, trivial⟩ (x_Sheet_readValue_98 e c)
def cL_Sheet_readDeclaration_12 (L : Nat) (xs : Nat → Int32) (Q : Option Value → ab_H → Prop) (v0 : Nat) (v1 : Nat) (v3 : Int32) (v4 : Int32) (v5 : Int32) (g : g_S) (out : (Int32) ⊕ (Int32)) : Prop := match out with
  | .inl s => wp (ab_ext L xs) J_Sheet_readDeclaration 12 [(0, .ref v0), (1, .ref v1), (3, .int v3), (4, .int v4), (5, .int v5), (6, .int s)] [] (hp g) Q
  | .inr s => wp (ab_ext L xs) J_Sheet_readDeclaration 34 [(0, .ref v0), (1, .ref v1), (3, .int v3), (4, .int v4), (5, .int v5), (6, .int s)] [] (hp g) Q
noncomputable def b_Sheet_readDeclaration_12 (v0 : Nat) (v1 : Nat) (v3 : Int32) (v4 : Int32) (v5 : Int32) (v6 : Int32) (g : g_S) : Option ((Int32) ⊕ (Int32)) :=
  if v6 < v3 then
    (aI g 1 v1 v6).bind fun z1 =>
    (M_Bytes_isSmall z1 g).bind fun z2 =>
    if z2 = 0 then
      some (.inr v6)
    else
      some (.inl (v6 + 1))
  else
    some (.inr v6)
set_option maxRecDepth 20000 in
theorem y_Sheet_readDeclaration_12 {L : Nat} {xs : Nat → Int32} {Q : Option Value → ab_H → Prop} {v0 : Nat} {v1 : Nat} {v3 : Int32} {v4 : Int32} {v5 : Int32} {v6 : Int32} {g : g_S} {out : (Int32) ⊕ (Int32)} (e : b_Sheet_readDeclaration_12 v0 v1 v3 v4 v5 v6 g = some out) (c : cL_Sheet_readDeclaration_12 L xs Q v0 v1 v3 v4 v5 g out) : wp (ab_ext L xs) J_Sheet_readDeclaration 12 [(0, .ref v0), (1, .ref v1), (3, .int v3), (4, .int v4), (5, .int v5), (6, .int v6)] [] (hp g) Q := by
  unfold b_Sheet_readDeclaration_12 at e
  refine wp_p (j := J_Sheet_readDeclaration) 2 (pc' := 15) (lv' := [(0, .ref v0), (1, .ref v1), (3, .int v3), (4, .int v4), (5, .int v5), (6, .int v6)]) (st' := [.int v3, .int v6]) rfl ?_
  refine x_ge e rfl (fun e => ?_) (fun e => ?_)
  · refine wp_p (j := J_Sheet_readDeclaration) 2 (pc' := 21) (lv' := [(0, .ref v0), (1, .ref v1), (3, .int v3), (4, .int v4), (5, .int v5), (6, .int v6)]) (st' := [.int v6, .ref v1]) rfl ?_
    refine x_aB e rfl (.inl rfl) rfl (fun z1 e => ?_)
    refine x_cs1 (As := [.int z1]) (rest := []) Value.int e rfl rfl rfl rfl rfl (fun h => d_Bytes_isSmall h ⟨rfl, rfl⟩) (fun z2 e => ?_)
    refine z_eq e rfl (fun e => ?_) (fun e => ?_)
    · have e := Option.some.inj e; subst e; exact wp_lv (lv' := [(0, .ref v0), (1, .ref v1), (3, .int v3), (4, .int v4), (5, .int v5), (6, .int v6)]) rfl ⟨rfl, rfl, rfl, rfl, rfl, rfl, trivial⟩ c
    · refine wp_p (j := J_Sheet_readDeclaration) 2 (pc' := 12) (lv' := [(6, .int (v6 + 1)), (0, .ref v0), (1, .ref v1), (3, .int v3), (4, .int v4), (5, .int v5)]) (st' := []) rfl ?_
      have e := Option.some.inj e; subst e; exact wp_lv (lv' := [(0, .ref v0), (1, .ref v1), (3, .int v3), (4, .int v4), (5, .int v5), (6, .int (v6 + 1))]) rfl ⟨rfl, rfl, rfl, rfl, rfl, rfl, trivial⟩ c
  · have e := Option.some.inj e; subst e; exact wp_lv (lv' := [(0, .ref v0), (1, .ref v1), (3, .int v3), (4, .int v4), (5, .int v5), (6, .int v6)]) rfl ⟨rfl, rfl, rfl, rfl, rfl, rfl, trivial⟩ c
noncomputable def L_Sheet_readDeclaration_12 (v0 : Nat) (v1 : Nat) (v3 : Int32) (v4 : Int32) (v5 : Int32) (v6 : Int32) (g : g_S) : Option (Int32) := it (fun s : Int32 => b_Sheet_readDeclaration_12 v0 v1 v3 v4 v5 s g) (v6)
theorem l_Sheet_readDeclaration_12 {L : Nat} {xs : Nat → Int32} {Q : Option Value → ab_H → Prop} {v0 : Nat} {v1 : Nat} {v3 : Int32} {v4 : Int32} {v5 : Int32} {v6 : Int32} {g : g_S} {r : Int32} (e : L_Sheet_readDeclaration_12 v0 v1 v3 v4 v5 v6 g = some r) (c : cL_Sheet_readDeclaration_12 L xs Q v0 v1 v3 v4 v5 g (.inr r)) : wp (ab_ext L xs) J_Sheet_readDeclaration 12 [(0, .ref v0), (1, .ref v1), (3, .int v3), (4, .int v4), (5, .int v5), (6, .int v6)] [] (hp g) Q :=
  it_wp (P := fun s : Int32 => wp (ab_ext L xs) J_Sheet_readDeclaration 12 [(0, .ref v0), (1, .ref v1), (3, .int v3), (4, .int v4), (5, .int v5), (6, .int s)] [] (hp g) Q) (E := fun r => cL_Sheet_readDeclaration_12 L xs Q v0 v1 v3 v4 v5 g (.inr r)) (fun s out e c => y_Sheet_readDeclaration_12 e (by cases out <;> exact c)) e c
theorem L_Sheet_readDeclaration_12_eq (v0 : Nat) (v1 : Nat) (v3 : Int32) (v4 : Int32) (v5 : Int32) (v6 : Int32) (g : g_S) : L_Sheet_readDeclaration_12 v0 v1 v3 v4 v5 v6 g = itc (b_Sheet_readDeclaration_12 v0 v1 v3 v4 v5 v6 g) (fun s => L_Sheet_readDeclaration_12 v0 v1 v3 v4 v5 s g) := it_eq2 (fun s : Int32 => b_Sheet_readDeclaration_12 v0 v1 v3 v4 v5 s g) (v6)
noncomputable def k_Sheet_readDeclaration_205 (w0 : Int32) (w1 : Int32) (w2 : Nat) (g : g_S) : Option g_S :=
  (sI g w2 w1 w0).bind fun g1 =>
  some g1
set_option maxRecDepth 20000 in
theorem x_Sheet_readDeclaration_205 {L : Nat} {xs : Nat → Int32} {Q : Option Value → ab_H → Prop} {w0 : Int32} {w1 : Int32} {w2 : Nat} {g : g_S} {out : g_S} (e : k_Sheet_readDeclaration_205 w0 w1 w2 g = some out) (c : Q none (hp out)) : wp (ab_ext L xs) J_Sheet_readDeclaration 205 [] [.int w0, .int w1, .ref w2] (hp g) Q := by
  unfold k_Sheet_readDeclaration_205 at e
  refine x_sI e rfl rfl (fun g1 e => ?_)
  have e := Option.some.inj e; subst e; exact wp_vret rfl rfl c
noncomputable def k_Sheet_readDeclaration_184 (v0 : Nat) (v11 : Int32) (v12 : Int32) (v13 : Int32) (g : g_S) : Option g_S :=
  (rQ g 109 v0 8).bind fun z1 =>
  if v11 = 0 then
    k_Sheet_readDeclaration_205 v12 v13 z1 g
  else
    k_Sheet_readDeclaration_205 (v12 + 65536) v13 z1 g
set_option maxRecDepth 20000 in
theorem x_Sheet_readDeclaration_184 {L : Nat} {xs : Nat → Int32} {Q : Option Value → ab_H → Prop} {v0 : Nat} {v11 : Int32} {v12 : Int32} {v13 : Int32} {g : g_S} {out : g_S} (e : k_Sheet_readDeclaration_184 v0 v11 v12 v13 g = some out) (c : Q none (hp out)) : wp (ab_ext L xs) J_Sheet_readDeclaration 184 [(0, .ref v0), (11, .int v11), (12, .int v12), (13, .int v13)] [] (hp g) Q := by
  unfold k_Sheet_readDeclaration_184 at e
  refine wp_p (j := J_Sheet_readDeclaration) 1 (pc' := 185) (lv' := [(0, .ref v0), (11, .int v11), (12, .int v12), (13, .int v13)]) (st' := [.ref v0]) rfl ?_
  refine x_gQ e rfl rfl fd_9_8 rfl (fun z1 e => ?_)
  refine wp_p (j := J_Sheet_readDeclaration) 2 (pc' := 192) (lv' := [(0, .ref v0), (11, .int v11), (12, .int v12), (13, .int v13)]) (st' := [.int v11, .int v13, .ref z1]) rfl ?_
  refine z_eq e rfl (fun e => ?_) (fun e => ?_)
  · refine wp_p (j := J_Sheet_readDeclaration) 1 (pc' := 205) (lv' := [(0, .ref v0), (11, .int v11), (12, .int v12), (13, .int v13)]) (st' := [.int v12, .int v13, .ref z1]) rfl ?_
    exact wp_lv (lv' := []) rfl trivial (x_Sheet_readDeclaration_205 e c)
  · refine wp_p (j := J_Sheet_readDeclaration) 1 (pc' := 197) (lv' := [(0, .ref v0), (11, .int v11), (12, .int v12), (13, .int v13)]) (st' := [.int v12, .int v13, .ref z1]) rfl ?_
    refine x_ld (x := 65536) rfl rfl rfl ?_
    refine wp_p (j := J_Sheet_readDeclaration) 2 (pc' := 205) (lv' := [(0, .ref v0), (11, .int v11), (12, .int v12), (13, .int v13)]) (st' := [.int (v12 + 65536), .int v13, .ref z1]) rfl ?_
    exact wp_lv (lv' := []) rfl trivial (x_Sheet_readDeclaration_205 e c)
noncomputable def k_Sheet_readDeclaration_139 (v0 : Nat) (v1 : Nat) (v4 : Int32) (v7 : Int32) (v9 : Int32) (v10 : Int32) (v11 : Int32) (g : g_S) : Option g_S :=
  (M_Sheet_readValue v7 v1 v9 v10 g).bind fun z1 =>
  if z1 = (-1) then
    some g
  else
    if v11 = 0 then
      (rQ g 109 v0 8).bind fun z2 =>
      (aI g 0 z2 ((v4 * 11) + v7)).bind fun z3 =>
      if z3 < 65536 then
        k_Sheet_readDeclaration_184 v0 v11 z1 ((v4 * 11) + v7) g
      else
        some g
    else
      k_Sheet_readDeclaration_184 v0 v11 z1 ((v4 * 11) + v7) g
set_option maxRecDepth 20000 in
theorem x_Sheet_readDeclaration_139 {L : Nat} {xs : Nat → Int32} {Q : Option Value → ab_H → Prop} {v0 : Nat} {v1 : Nat} {v4 : Int32} {v7 : Int32} {v9 : Int32} {v10 : Int32} {v11 : Int32} {g : g_S} {out : g_S} (e : k_Sheet_readDeclaration_139 v0 v1 v4 v7 v9 v10 v11 g = some out) (c : Q none (hp out)) : wp (ab_ext L xs) J_Sheet_readDeclaration 139 [(0, .ref v0), (1, .ref v1), (4, .int v4), (7, .int v7), (9, .int v9), (10, .int v10), (11, .int v11)] [] (hp g) Q := by
  unfold k_Sheet_readDeclaration_139 at e
  refine wp_p (j := J_Sheet_readDeclaration) 4 (pc' := 146) (lv' := [(0, .ref v0), (1, .ref v1), (4, .int v4), (7, .int v7), (9, .int v9), (10, .int v10), (11, .int v11)]) (st' := [.int v10, .int v9, .ref v1, .int v7]) rfl ?_
  refine x_cs1 (As := [.int v7, .ref v1, .int v9, .int v10]) (rest := []) Value.int e rfl rfl rfl rfl rfl (fun h => d_Sheet_readValue h ⟨rfl, rfl⟩) (fun z1 e => ?_)
  refine wp_p (j := J_Sheet_readDeclaration) 9 (pc' := 164) (lv' := [(13, .int ((v4 * 11) + v7)), (12, .int z1), (0, .ref v0), (1, .ref v1), (4, .int v4), (7, .int v7), (9, .int v9), (10, .int v10), (11, .int v11)]) (st' := [.int (-1), .int z1]) rfl ?_
  refine x_eq e rfl (fun e => ?_) (fun e => ?_)
  · have e := Option.some.inj e; subst e; exact wp_vret rfl rfl c
  · refine wp_p (j := J_Sheet_readDeclaration) 1 (pc' := 169) (lv' := [(13, .int ((v4 * 11) + v7)), (12, .int z1), (0, .ref v0), (1, .ref v1), (4, .int v4), (7, .int v7), (9, .int v9), (10, .int v10), (11, .int v11)]) (st' := [.int v11]) rfl ?_
    refine z_ne e rfl (fun e => ?_) (fun e => ?_)
    · refine wp_p (j := J_Sheet_readDeclaration) 1 (pc' := 173) (lv' := [(13, .int ((v4 * 11) + v7)), (12, .int z1), (0, .ref v0), (1, .ref v1), (4, .int v4), (7, .int v7), (9, .int v9), (10, .int v10), (11, .int v11)]) (st' := [.ref v0]) rfl ?_
      refine x_gQ e rfl rfl fd_9_8 rfl (fun z2 e => ?_)
      refine wp_p (j := J_Sheet_readDeclaration) 1 (pc' := 178) (lv' := [(13, .int ((v4 * 11) + v7)), (12, .int z1), (0, .ref v0), (1, .ref v1), (4, .int v4), (7, .int v7), (9, .int v9), (10, .int v10), (11, .int v11)]) (st' := [.int ((v4 * 11) + v7), .ref z2]) rfl ?_
      refine x_aI e rfl rfl (fun z3 e => ?_)
      refine x_ld (x := 65536) rfl rfl rfl ?_
      refine x_ge e rfl (fun e => ?_) (fun e => ?_)
      · exact wp_lv (lv' := [(0, .ref v0), (11, .int v11), (12, .int z1), (13, .int ((v4 * 11) + v7))]) rfl ⟨rfl, rfl, rfl, rfl, trivial⟩ (x_Sheet_readDeclaration_184 e c)
      · have e := Option.some.inj e; subst e; exact wp_vret rfl rfl c
    · exact wp_lv (lv' := [(0, .ref v0), (11, .int v11), (12, .int z1), (13, .int ((v4 * 11) + v7))]) rfl ⟨rfl, rfl, rfl, rfl, trivial⟩ (x_Sheet_readDeclaration_184 e c)
noncomputable def k_Sheet_readDeclaration_120 (v0 : Nat) (v1 : Nat) (v4 : Int32) (v7 : Int32) (v9 : Int32) (v10 : Int32) (w0 : Int32) (g : g_S) : Option g_S :=
  if w0 = 0 then
    k_Sheet_readDeclaration_139 v0 v1 v4 v7 v9 v10 w0 g
  else
    (M_Sheet_trimBlanks v1 v9 (v10 - 1) g).bind fun z1 =>
    k_Sheet_readDeclaration_139 v0 v1 v4 v7 v9 z1 w0 g
set_option maxRecDepth 20000 in
theorem x_Sheet_readDeclaration_120 {L : Nat} {xs : Nat → Int32} {Q : Option Value → ab_H → Prop} {v0 : Nat} {v1 : Nat} {v4 : Int32} {v7 : Int32} {v9 : Int32} {v10 : Int32} {w0 : Int32} {g : g_S} {out : g_S} (e : k_Sheet_readDeclaration_120 v0 v1 v4 v7 v9 v10 w0 g = some out) (c : Q none (hp out)) : wp (ab_ext L xs) J_Sheet_readDeclaration 120 [(0, .ref v0), (1, .ref v1), (4, .int v4), (7, .int v7), (9, .int v9), (10, .int v10)] [.int w0] (hp g) Q := by
  unfold k_Sheet_readDeclaration_120 at e
  refine wp_p (j := J_Sheet_readDeclaration) 2 (pc' := 124) (lv' := [(11, .int w0), (0, .ref v0), (1, .ref v1), (4, .int v4), (7, .int v7), (9, .int v9), (10, .int v10)]) (st' := [.int w0]) rfl ?_
  refine z_eq e rfl (fun e => ?_) (fun e => ?_)
  · exact wp_lv (lv' := [(0, .ref v0), (1, .ref v1), (4, .int v4), (7, .int v7), (9, .int v9), (10, .int v10), (11, .int w0)]) rfl ⟨rfl, rfl, rfl, rfl, rfl, rfl, rfl, trivial⟩ (x_Sheet_readDeclaration_139 e c)
  · refine wp_p (j := J_Sheet_readDeclaration) 5 (pc' := 134) (lv' := [(11, .int w0), (0, .ref v0), (1, .ref v1), (4, .int v4), (7, .int v7), (9, .int v9), (10, .int v10)]) (st' := [.int (v10 - 1), .int v9, .ref v1]) rfl ?_
    refine x_cs1 (As := [.ref v1, .int v9, .int (v10 - 1)]) (rest := []) Value.int e rfl rfl rfl rfl rfl (fun h => d_Sheet_trimBlanks h ⟨rfl, rfl⟩) (fun z1 e => ?_)
    refine wp_p (j := J_Sheet_readDeclaration) 1 (pc' := 139) (lv' := [(10, .int z1), (11, .int w0), (0, .ref v0), (1, .ref v1), (4, .int v4), (7, .int v7), (9, .int v9)]) (st' := []) rfl ?_
    exact wp_lv (lv' := [(0, .ref v0), (1, .ref v1), (4, .int v4), (7, .int v7), (9, .int v9), (10, .int z1), (11, .int w0)]) rfl ⟨rfl, rfl, rfl, rfl, rfl, rfl, rfl, trivial⟩ (x_Sheet_readDeclaration_139 e c)
noncomputable def k_Sheet_readDeclaration_119 (v0 : Nat) (v1 : Nat) (v4 : Int32) (v7 : Int32) (v9 : Int32) (v10 : Int32) (g : g_S) : Option g_S :=
  k_Sheet_readDeclaration_120 v0 v1 v4 v7 v9 v10 0 g
set_option maxRecDepth 20000 in
theorem x_Sheet_readDeclaration_119 {L : Nat} {xs : Nat → Int32} {Q : Option Value → ab_H → Prop} {v0 : Nat} {v1 : Nat} {v4 : Int32} {v7 : Int32} {v9 : Int32} {v10 : Int32} {g : g_S} {out : g_S} (e : k_Sheet_readDeclaration_119 v0 v1 v4 v7 v9 v10 g = some out) (c : Q none (hp out)) : wp (ab_ext L xs) J_Sheet_readDeclaration 119 [(0, .ref v0), (1, .ref v1), (4, .int v4), (7, .int v7), (9, .int v9), (10, .int v10)] [] (hp g) Q := by
  unfold k_Sheet_readDeclaration_119 at e
  refine wp_p (j := J_Sheet_readDeclaration) 1 (pc' := 120) (lv' := [(0, .ref v0), (1, .ref v1), (4, .int v4), (7, .int v7), (9, .int v9), (10, .int v10)]) (st' := [.int 0]) rfl ?_
  exact wp_lv (lv' := [(0, .ref v0), (1, .ref v1), (4, .int v4), (7, .int v7), (9, .int v9), (10, .int v10)]) rfl ⟨rfl, rfl, rfl, rfl, rfl, rfl, trivial⟩ (x_Sheet_readDeclaration_120 e c)
noncomputable def k_Sheet_readDeclaration_34 (v0 : Nat) (v1 : Nat) (v3 : Int32) (v4 : Int32) (v5 : Int32) (v6 : Int32) (g : g_S) : Option g_S :=
  (M_Bytes_wordPlace 1000038 v1 v5 v6 g).bind fun z1 =>
  (M_Sheet_skipBlanks v1 v6 v3 g).bind fun z2 =>
  if z1 = (-1) then
    some g
  else
    if z2 = v3 then
      some g
    else
      (aI g 1 v1 z2).bind fun z3 =>
      if z3 = 58 then
        (M_Sheet_skipBlanks v1 (z2 + 1) v3 g).bind fun z4 =>
        (M_Sheet_trimBlanks v1 z4 v3 g).bind fun z5 =>
        if z4 < z5 then
          (aI g 1 v1 (z5 - 1)).bind fun z6 =>
          if z6 = 33 then
            k_Sheet_readDeclaration_120 v0 v1 v4 z1 z4 z5 1 g
          else
            k_Sheet_readDeclaration_119 v0 v1 v4 z1 z4 z5 g
        else
          k_Sheet_readDeclaration_119 v0 v1 v4 z1 z4 z5 g
      else
        some g
set_option maxRecDepth 20000 in
theorem x_Sheet_readDeclaration_34 {L : Nat} {xs : Nat → Int32} {Q : Option Value → ab_H → Prop} {v0 : Nat} {v1 : Nat} {v3 : Int32} {v4 : Int32} {v5 : Int32} {v6 : Int32} {g : g_S} {out : g_S} (e : k_Sheet_readDeclaration_34 v0 v1 v3 v4 v5 v6 g = some out) (c : Q none (hp out)) : wp (ab_ext L xs) J_Sheet_readDeclaration 34 [(0, .ref v0), (1, .ref v1), (3, .int v3), (4, .int v4), (5, .int v5), (6, .int v6)] [] (hp g) Q := by
  unfold k_Sheet_readDeclaration_34 at e
  refine x_ls rfl rfl ?_
  refine wp_p (j := J_Sheet_readDeclaration) 3 (pc' := 41) (lv' := [(0, .ref v0), (1, .ref v1), (3, .int v3), (4, .int v4), (5, .int v5), (6, .int v6)]) (st' := [.int v6, .int v5, .ref v1, .ref 1000038]) rfl ?_
  refine x_cs1 (As := [.ref 1000038, .ref v1, .int v5, .int v6]) (rest := []) Value.int e rfl rfl rfl rfl rfl (fun h => d_Bytes_wordPlace h ⟨rfl, rfl⟩) (fun z1 e => ?_)
  refine wp_p (j := J_Sheet_readDeclaration) 4 (pc' := 50) (lv' := [(7, .int z1), (0, .ref v0), (1, .ref v1), (3, .int v3), (4, .int v4), (5, .int v5), (6, .int v6)]) (st' := [.int v3, .int v6, .ref v1]) rfl ?_
  refine x_cs1 (As := [.ref v1, .int v6, .int v3]) (rest := []) Value.int e rfl rfl rfl rfl rfl (fun h => d_Sheet_skipBlanks h ⟨rfl, rfl⟩) (fun z2 e => ?_)
  refine wp_p (j := J_Sheet_readDeclaration) 3 (pc' := 58) (lv' := [(8, .int z2), (7, .int z1), (0, .ref v0), (1, .ref v1), (3, .int v3), (4, .int v4), (5, .int v5), (6, .int v6)]) (st' := [.int (-1), .int z1]) rfl ?_
  refine x_eq e rfl (fun e => ?_) (fun e => ?_)
  · have e := Option.some.inj e; subst e; exact wp_vret rfl rfl c
  · refine wp_p (j := J_Sheet_readDeclaration) 2 (pc' := 64) (lv' := [(8, .int z2), (7, .int z1), (0, .ref v0), (1, .ref v1), (3, .int v3), (4, .int v4), (5, .int v5), (6, .int v6)]) (st' := [.int v3, .int z2]) rfl ?_
    refine x_eq e rfl (fun e => ?_) (fun e => ?_)
    · have e := Option.some.inj e; subst e; exact wp_vret rfl rfl c
    · refine wp_p (j := J_Sheet_readDeclaration) 2 (pc' := 70) (lv' := [(8, .int z2), (7, .int z1), (0, .ref v0), (1, .ref v1), (3, .int v3), (4, .int v4), (5, .int v5), (6, .int v6)]) (st' := [.int z2, .ref v1]) rfl ?_
      refine x_aB e rfl (.inl rfl) rfl (fun z3 e => ?_)
      refine wp_p (j := J_Sheet_readDeclaration) 1 (pc' := 73) (lv' := [(8, .int z2), (7, .int z1), (0, .ref v0), (1, .ref v1), (3, .int v3), (4, .int v4), (5, .int v5), (6, .int v6)]) (st' := [.int 58, .int z3]) rfl ?_
      refine x_eq e rfl (fun e => ?_) (fun e => ?_)
      · refine wp_p (j := J_Sheet_readDeclaration) 5 (pc' := 83) (lv' := [(8, .int z2), (7, .int z1), (0, .ref v0), (1, .ref v1), (3, .int v3), (4, .int v4), (5, .int v5), (6, .int v6)]) (st' := [.int v3, .int (z2 + 1), .ref v1]) rfl ?_
        refine x_cs1 (As := [.ref v1, .int (z2 + 1), .int v3]) (rest := []) Value.int e rfl rfl rfl rfl rfl (fun h => d_Sheet_skipBlanks h ⟨rfl, rfl⟩) (fun z4 e => ?_)
        refine wp_p (j := J_Sheet_readDeclaration) 4 (pc' := 92) (lv' := [(9, .int z4), (8, .int z2), (7, .int z1), (0, .ref v0), (1, .ref v1), (3, .int v3), (4, .int v4), (5, .int v5), (6, .int v6)]) (st' := [.int v3, .int z4, .ref v1]) rfl ?_
        refine x_cs1 (As := [.ref v1, .int z4, .int v3]) (rest := []) Value.int e rfl rfl rfl rfl rfl (fun h => d_Sheet_trimBlanks h ⟨rfl, rfl⟩) (fun z5 e => ?_)
        refine wp_p (j := J_Sheet_readDeclaration) 3 (pc' := 101) (lv' := [(10, .int z5), (9, .int z4), (8, .int z2), (7, .int z1), (0, .ref v0), (1, .ref v1), (3, .int v3), (4, .int v4), (5, .int v5), (6, .int v6)]) (st' := [.int z4, .int z5]) rfl ?_
        refine x_le e rfl (fun e => ?_) (fun e => ?_)
        · refine wp_p (j := J_Sheet_readDeclaration) 4 (pc' := 109) (lv' := [(10, .int z5), (9, .int z4), (8, .int z2), (7, .int z1), (0, .ref v0), (1, .ref v1), (3, .int v3), (4, .int v4), (5, .int v5), (6, .int v6)]) (st' := [.int (z5 - 1), .ref v1]) rfl ?_
          refine x_aB e rfl (.inl rfl) rfl (fun z6 e => ?_)
          refine wp_p (j := J_Sheet_readDeclaration) 1 (pc' := 112) (lv' := [(10, .int z5), (9, .int z4), (8, .int z2), (7, .int z1), (0, .ref v0), (1, .ref v1), (3, .int v3), (4, .int v4), (5, .int v5), (6, .int v6)]) (st' := [.int 33, .int z6]) rfl ?_
          refine x_ne e rfl (fun e => ?_) (fun e => ?_)
          · refine wp_p (j := J_Sheet_readDeclaration) 2 (pc' := 120) (lv' := [(10, .int z5), (9, .int z4), (8, .int z2), (7, .int z1), (0, .ref v0), (1, .ref v1), (3, .int v3), (4, .int v4), (5, .int v5), (6, .int v6)]) (st' := [.int 1]) rfl ?_
            exact wp_lv (lv' := [(0, .ref v0), (1, .ref v1), (4, .int v4), (7, .int z1), (9, .int z4), (10, .int z5)]) rfl ⟨rfl, rfl, rfl, rfl, rfl, rfl, trivial⟩ (x_Sheet_readDeclaration_120 e c)
          · exact wp_lv (lv' := [(0, .ref v0), (1, .ref v1), (4, .int v4), (7, .int z1), (9, .int z4), (10, .int z5)]) rfl ⟨rfl, rfl, rfl, rfl, rfl, rfl, trivial⟩ (x_Sheet_readDeclaration_119 e c)
        · exact wp_lv (lv' := [(0, .ref v0), (1, .ref v1), (4, .int v4), (7, .int z1), (9, .int z4), (10, .int z5)]) rfl ⟨rfl, rfl, rfl, rfl, rfl, rfl, trivial⟩ (x_Sheet_readDeclaration_119 e c)
      · have e := Option.some.inj e; subst e; exact wp_vret rfl rfl c
noncomputable def M_Sheet_readDeclaration (v0 : Nat) (v1 : Nat) (v2 : Int32) (v3 : Int32) (v4 : Int32) (g : g_S) : Option g_S :=
  (M_Sheet_skipBlanks v1 v2 v3 g).bind fun z1 =>
  (L_Sheet_readDeclaration_12 v0 v1 v3 v4 z1 z1 g).bind <| fun z4 =>
  k_Sheet_readDeclaration_34 v0 v1 v3 v4 z1 z4 g
set_option maxRecDepth 20000 in
theorem d_Sheet_readDeclaration {L : Nat} {xs : Nat → Int32} {Q : Option Value → ab_H → Prop} {v0 : Nat} {v1 : Nat} {v2 : Int32} {v3 : Int32} {v4 : Int32} {g : g_S} {out : g_S} (e : M_Sheet_readDeclaration v0 v1 v2 v3 v4 g = some out) (c : Q none (hp out)) : mw (ab_ext L xs) J_Sheet_readDeclaration [.ref v0, .ref v1, .int v2, .int v3, .int v4] (hp g) Q := by
  unfold M_Sheet_readDeclaration at e
  refine wp_p (j := J_Sheet_readDeclaration) 3 (pc' := 3) (lv' := [(0, .ref v0), (1, .ref v1), (2, .int v2), (3, .int v3), (4, .int v4)]) (st' := [.int v3, .int v2, .ref v1]) rfl ?_
  refine x_cs1 (As := [.ref v1, .int v2, .int v3]) (rest := []) Value.int e rfl rfl rfl rfl rfl (fun h => d_Sheet_skipBlanks h ⟨rfl, rfl⟩) (fun z1 e => ?_)
  refine wp_p (j := J_Sheet_readDeclaration) 3 (pc' := 12) (lv' := [(6, .int z1), (5, .int z1), (0, .ref v0), (1, .ref v1), (2, .int v2), (3, .int v3), (4, .int v4)]) (st' := []) rfl ?_
  obtain ⟨z4, h3, e⟩ := bd e
  refine wp_lv (lv' := [(0, .ref v0), (1, .ref v1), (3, .int v3), (4, .int v4), (5, .int z1), (6, .int z1)]) rfl ⟨rfl, rfl, rfl, rfl, rfl, rfl, trivial⟩ ?_
  refine l_Sheet_readDeclaration_12 h3 ?_
  show wp (ab_ext L xs) J_Sheet_readDeclaration 34 [(0, .ref v0), (1, .ref v1), (3, .int v3), (4, .int v4), (5, .int z1), (6, .int z4)] [] (hp g) Q
  exact wp_lv (lv' := [(0, .ref v0), (1, .ref v1), (3, .int v3), (4, .int v4), (5, .int z1), (6, .int z4)]) rfl ⟨rfl, rfl, rfl, rfl, rfl, rfl, trivial⟩ (x_Sheet_readDeclaration_34 e c)
def cL_Sheet_readRule_128 (L : Nat) (xs : Nat → Int32) (Q : Option Value → ab_H → Prop) (v0 : Nat) (v1 : Nat) (v4 : Int32) (v5 : Int32) (out : (Int32 × Int32 × g_S) ⊕ (g_S)) : Prop := match out with
  | .inl s => wp (ab_ext L xs) J_Sheet_readRule 128 [(0, .ref v0), (1, .ref v1), (4, .int v4), (5, .int v5), (6, .int s.1), (7, .int s.2.1)] [] (hp s.2.2) Q
  | .inr s => wp (ab_ext L xs) J_Sheet_readRule 177 [] [] (hp s) Q
noncomputable def b_Sheet_readRule_128 (v0 : Nat) (v1 : Nat) (v4 : Int32) (v5 : Int32) (v6 : Int32) (v7 : Int32) (g : g_S) : Option ((Int32 × Int32 × g_S) ⊕ (g_S)) :=
  if v7 < v4 then
    if v6 < v4 then
      (M_Sheet_indexOf v1 v6 v4 59 g).bind fun z1 =>
      (vc g 109 v0 (M_Sheet_readDeclaration v0 v1 v6 z1 v5 g)).bind fun g2 =>
      some (.inl (z1 + 1, v7 + 1, g2))
    else
      some (.inr g)
  else
    some (.inr g)
set_option maxRecDepth 20000 in
theorem y_Sheet_readRule_128 {L : Nat} {xs : Nat → Int32} {Q : Option Value → ab_H → Prop} {v0 : Nat} {v1 : Nat} {v4 : Int32} {v5 : Int32} {v6 : Int32} {v7 : Int32} {g : g_S} {out : (Int32 × Int32 × g_S) ⊕ (g_S)} (e : b_Sheet_readRule_128 v0 v1 v4 v5 v6 v7 g = some out) (c : cL_Sheet_readRule_128 L xs Q v0 v1 v4 v5 out) : wp (ab_ext L xs) J_Sheet_readRule 128 [(0, .ref v0), (1, .ref v1), (4, .int v4), (5, .int v5), (6, .int v6), (7, .int v7)] [] (hp g) Q := by
  unfold b_Sheet_readRule_128 at e
  refine wp_p (j := J_Sheet_readRule) 2 (pc' := 132) (lv' := [(0, .ref v0), (1, .ref v1), (4, .int v4), (5, .int v5), (6, .int v6), (7, .int v7)]) (st' := [.int v4, .int v7]) rfl ?_
  refine x_ge e rfl (fun e => ?_) (fun e => ?_)
  · refine wp_p (j := J_Sheet_readRule) 2 (pc' := 139) (lv' := [(0, .ref v0), (1, .ref v1), (4, .int v4), (5, .int v5), (6, .int v6), (7, .int v7)]) (st' := [.int v4, .int v6]) rfl ?_
    refine x_ge e rfl (fun e => ?_) (fun e => ?_)
    · refine wp_p (j := J_Sheet_readRule) 4 (pc' := 149) (lv' := [(0, .ref v0), (1, .ref v1), (4, .int v4), (5, .int v5), (6, .int v6), (7, .int v7)]) (st' := [.int 59, .int v4, .int v6, .ref v1]) rfl ?_
      refine x_cs1 (As := [.ref v1, .int v6, .int v4, .int 59]) (rest := []) Value.int e rfl rfl rfl rfl rfl (fun h => d_Sheet_indexOf h ⟨rfl, rfl⟩) (fun z1 e => ?_)
      refine wp_p (j := J_Sheet_readRule) 6 (pc' := 162) (lv' := [(8, .int z1), (0, .ref v0), (1, .ref v1), (4, .int v4), (5, .int v5), (6, .int v6), (7, .int v7)]) (st' := [.int v5, .int z1, .int v6, .ref v1, .ref v0]) rfl ?_
      refine x_cv0 (As := [.ref v1, .int v6, .int z1, .int v5]) (rest := []) e rfl rfl rfl rfl rfl rfl (fun h => d_Sheet_readDeclaration h ⟨rfl, rfl⟩) (fun g2 e => ?_)
      refine wp_p (j := J_Sheet_readRule) 6 (pc' := 128) (lv' := [(7, .int (v7 + 1)), (6, .int (z1 + 1)), (8, .int z1), (0, .ref v0), (1, .ref v1), (4, .int v4), (5, .int v5)]) (st' := []) rfl ?_
      have e := Option.some.inj e; subst e; exact wp_lv (lv' := [(0, .ref v0), (1, .ref v1), (4, .int v4), (5, .int v5), (6, .int (z1 + 1)), (7, .int (v7 + 1))]) rfl ⟨rfl, rfl, rfl, rfl, rfl, rfl, trivial⟩ c
    · have e := Option.some.inj e; subst e; exact wp_lv (lv' := []) rfl trivial c
  · have e := Option.some.inj e; subst e; exact wp_lv (lv' := []) rfl trivial c
noncomputable def L_Sheet_readRule_128 (v0 : Nat) (v1 : Nat) (v4 : Int32) (v5 : Int32) (v6 : Int32) (v7 : Int32) (g : g_S) : Option (g_S) := it (fun s : Int32 × Int32 × g_S => b_Sheet_readRule_128 v0 v1 v4 v5 s.1 s.2.1 s.2.2) (v6, v7, g)
theorem l_Sheet_readRule_128 {L : Nat} {xs : Nat → Int32} {Q : Option Value → ab_H → Prop} {v0 : Nat} {v1 : Nat} {v4 : Int32} {v5 : Int32} {v6 : Int32} {v7 : Int32} {g : g_S} {r : g_S} (e : L_Sheet_readRule_128 v0 v1 v4 v5 v6 v7 g = some r) (c : cL_Sheet_readRule_128 L xs Q v0 v1 v4 v5 (.inr r)) : wp (ab_ext L xs) J_Sheet_readRule 128 [(0, .ref v0), (1, .ref v1), (4, .int v4), (5, .int v5), (6, .int v6), (7, .int v7)] [] (hp g) Q :=
  it_wp (P := fun s : Int32 × Int32 × g_S => wp (ab_ext L xs) J_Sheet_readRule 128 [(0, .ref v0), (1, .ref v1), (4, .int v4), (5, .int v5), (6, .int s.1), (7, .int s.2.1)] [] (hp s.2.2) Q) (E := fun r => cL_Sheet_readRule_128 L xs Q v0 v1 v4 v5 (.inr r)) (fun s out e c => y_Sheet_readRule_128 e (by cases out <;> exact c)) e c
theorem L_Sheet_readRule_128_eq (v0 : Nat) (v1 : Nat) (v4 : Int32) (v5 : Int32) (v6 : Int32) (v7 : Int32) (g : g_S) : L_Sheet_readRule_128 v0 v1 v4 v5 v6 v7 g = itc (b_Sheet_readRule_128 v0 v1 v4 v5 v6 v7 g) (fun s => L_Sheet_readRule_128 v0 v1 v4 v5 s.1 s.2.1 s.2.2) := it_eq2 (fun s : Int32 × Int32 × g_S => b_Sheet_readRule_128 v0 v1 v4 v5 s.1 s.2.1 s.2.2) (v6, v7, g)
def cL_Sheet_readRule_12 (L : Nat) (xs : Nat → Int32) (Q : Option Value → ab_H → Prop) (v0 : Nat) (v1 : Nat) (v3 : Int32) (v4 : Int32) (v5 : Int32) (out : (Int32 × Int32 × g_S) ⊕ (g_S)) : Prop := match out with
  | .inl s => wp (ab_ext L xs) J_Sheet_readRule 12 [(0, .ref v0), (1, .ref v1), (3, .int v3), (4, .int v4), (5, .int v5), (6, .int s.1), (7, .int s.2.1)] [] (hp s.2.2) Q
  | .inr s => wp (ab_ext L xs) J_Sheet_readRule 91 [(0, .ref v0), (1, .ref v1), (3, .int v3), (4, .int v4), (5, .int v5)] [] (hp s) Q
noncomputable def b_Sheet_readRule_12 (v0 : Nat) (v1 : Nat) (v3 : Int32) (v4 : Int32) (v5 : Int32) (v6 : Int32) (v7 : Int32) (g : g_S) : Option ((Int32 × Int32 × g_S) ⊕ (g_S)) :=
  if v3 < v7 then
    some (.inr g)
  else
    if v3 < v6 then
      some (.inr g)
    else
      (rI g 109 v0 13).bind fun z1 =>
      if z1 < 40 then
        (M_Sheet_indexOf v1 v6 v3 44 g).bind fun z2 =>
        (rI g 109 v0 13).bind fun z3 =>
        c2 (vc g 109 v0 (M_Sheet_takeSelector v0 v1 v6 z2 z3 g)) fun z4 g5 =>
        (rQ g5 109 v0 3).bind fun z6 =>
        (rI g5 109 v0 13).bind fun z7 =>
        (sI g5 z6 z7 v5).bind fun g8 =>
        (rI g8 109 v0 13).bind fun z9 =>
        (wI g8 109 v0 13 (z9 + 1)).bind fun g10 =>
        some (.inl (z2 + 1, v7 + 1, g10))
      else
        some (.inr g)
set_option maxRecDepth 20000 in
theorem y_Sheet_readRule_12 {L : Nat} {xs : Nat → Int32} {Q : Option Value → ab_H → Prop} {v0 : Nat} {v1 : Nat} {v3 : Int32} {v4 : Int32} {v5 : Int32} {v6 : Int32} {v7 : Int32} {g : g_S} {out : (Int32 × Int32 × g_S) ⊕ (g_S)} (e : b_Sheet_readRule_12 v0 v1 v3 v4 v5 v6 v7 g = some out) (c : cL_Sheet_readRule_12 L xs Q v0 v1 v3 v4 v5 out) : wp (ab_ext L xs) J_Sheet_readRule 12 [(0, .ref v0), (1, .ref v1), (3, .int v3), (4, .int v4), (5, .int v5), (6, .int v6), (7, .int v7)] [] (hp g) Q := by
  unfold b_Sheet_readRule_12 at e
  refine wp_p (j := J_Sheet_readRule) 2 (pc' := 15) (lv' := [(0, .ref v0), (1, .ref v1), (3, .int v3), (4, .int v4), (5, .int v5), (6, .int v6), (7, .int v7)]) (st' := [.int v3, .int v7]) rfl ?_
  refine x_gt e rfl (fun e => ?_) (fun e => ?_)
  · have e := Option.some.inj e; subst e; exact wp_lv (lv' := [(0, .ref v0), (1, .ref v1), (3, .int v3), (4, .int v4), (5, .int v5)]) rfl ⟨rfl, rfl, rfl, rfl, rfl, trivial⟩ c
  · refine wp_p (j := J_Sheet_readRule) 2 (pc' := 21) (lv' := [(0, .ref v0), (1, .ref v1), (3, .int v3), (4, .int v4), (5, .int v5), (6, .int v6), (7, .int v7)]) (st' := [.int v3, .int v6]) rfl ?_
    refine x_gt e rfl (fun e => ?_) (fun e => ?_)
    · have e := Option.some.inj e; subst e; exact wp_lv (lv' := [(0, .ref v0), (1, .ref v1), (3, .int v3), (4, .int v4), (5, .int v5)]) rfl ⟨rfl, rfl, rfl, rfl, rfl, trivial⟩ c
    · refine wp_p (j := J_Sheet_readRule) 1 (pc' := 25) (lv' := [(0, .ref v0), (1, .ref v1), (3, .int v3), (4, .int v4), (5, .int v5), (6, .int v6), (7, .int v7)]) (st' := [.ref v0]) rfl ?_
      refine x_gI e rfl rfl fd_9_13 rfl (fun z1 e => ?_)
      refine wp_p (j := J_Sheet_readRule) 1 (pc' := 30) (lv' := [(0, .ref v0), (1, .ref v1), (3, .int v3), (4, .int v4), (5, .int v5), (6, .int v6), (7, .int v7)]) (st' := [.int 40, .int z1]) rfl ?_
      refine x_ge e rfl (fun e => ?_) (fun e => ?_)
      · refine wp_p (j := J_Sheet_readRule) 4 (pc' := 39) (lv' := [(0, .ref v0), (1, .ref v1), (3, .int v3), (4, .int v4), (5, .int v5), (6, .int v6), (7, .int v7)]) (st' := [.int 44, .int v3, .int v6, .ref v1]) rfl ?_
        refine x_cs1 (As := [.ref v1, .int v6, .int v3, .int 44]) (rest := []) Value.int e rfl rfl rfl rfl rfl (fun h => d_Sheet_indexOf h ⟨rfl, rfl⟩) (fun z2 e => ?_)
        refine wp_p (j := J_Sheet_readRule) 6 (pc' := 51) (lv' := [(8, .int z2), (0, .ref v0), (1, .ref v1), (3, .int v3), (4, .int v4), (5, .int v5), (6, .int v6), (7, .int v7)]) (st' := [.ref v0, .int z2, .int v6, .ref v1, .ref v0]) rfl ?_
        refine x_gI e rfl rfl fd_9_13 rfl (fun z3 e => ?_)
        refine x_cv2 (As := [.ref v1, .int v6, .int z2, .int z3]) (rest := []) Value.int e rfl rfl rfl rfl rfl rfl (fun h => d_Sheet_takeSelector h ⟨rfl, rfl⟩) (fun z4 g5 e => ?_)
        refine wp_p (j := J_Sheet_readRule) 2 (pc' := 59) (lv' := [(8, .int z2), (0, .ref v0), (1, .ref v1), (3, .int v3), (4, .int v4), (5, .int v5), (6, .int v6), (7, .int v7)]) (st' := [.ref v0]) rfl ?_
        refine x_gQ e rfl rfl fd_9_3 rfl (fun z6 e => ?_)
        refine wp_p (j := J_Sheet_readRule) 1 (pc' := 63) (lv' := [(8, .int z2), (0, .ref v0), (1, .ref v1), (3, .int v3), (4, .int v4), (5, .int v5), (6, .int v6), (7, .int v7)]) (st' := [.ref v0, .ref z6]) rfl ?_
        refine x_gI e rfl rfl fd_9_13 rfl (fun z7 e => ?_)
        refine wp_p (j := J_Sheet_readRule) 1 (pc' := 68) (lv' := [(8, .int z2), (0, .ref v0), (1, .ref v1), (3, .int v3), (4, .int v4), (5, .int v5), (6, .int v6), (7, .int v7)]) (st' := [.int v5, .int z7, .ref z6]) rfl ?_
        refine x_sI e rfl rfl (fun g8 e => ?_)
        refine wp_p (j := J_Sheet_readRule) 2 (pc' := 71) (lv' := [(8, .int z2), (0, .ref v0), (1, .ref v1), (3, .int v3), (4, .int v4), (5, .int v5), (6, .int v6), (7, .int v7)]) (st' := [.ref v0, .ref v0]) rfl ?_
        refine x_gI e rfl rfl fd_9_13 rfl (fun z9 e => ?_)
        refine wp_p (j := J_Sheet_readRule) 2 (pc' := 76) (lv' := [(8, .int z2), (0, .ref v0), (1, .ref v1), (3, .int v3), (4, .int v4), (5, .int v5), (6, .int v6), (7, .int v7)]) (st' := [.int (z9 + 1), .ref v0]) rfl ?_
        refine x_pI e rfl rfl fw_9_13 rfl (fun g10 e => ?_)
        refine wp_p (j := J_Sheet_readRule) 6 (pc' := 12) (lv' := [(7, .int (v7 + 1)), (6, .int (z2 + 1)), (8, .int z2), (0, .ref v0), (1, .ref v1), (3, .int v3), (4, .int v4), (5, .int v5)]) (st' := []) rfl ?_
        have e := Option.some.inj e; subst e; exact wp_lv (lv' := [(0, .ref v0), (1, .ref v1), (3, .int v3), (4, .int v4), (5, .int v5), (6, .int (z2 + 1)), (7, .int (v7 + 1))]) rfl ⟨rfl, rfl, rfl, rfl, rfl, rfl, rfl, trivial⟩ c
      · have e := Option.some.inj e; subst e; exact wp_lv (lv' := [(0, .ref v0), (1, .ref v1), (3, .int v3), (4, .int v4), (5, .int v5)]) rfl ⟨rfl, rfl, rfl, rfl, rfl, trivial⟩ c
noncomputable def L_Sheet_readRule_12 (v0 : Nat) (v1 : Nat) (v3 : Int32) (v4 : Int32) (v5 : Int32) (v6 : Int32) (v7 : Int32) (g : g_S) : Option (g_S) := it (fun s : Int32 × Int32 × g_S => b_Sheet_readRule_12 v0 v1 v3 v4 v5 s.1 s.2.1 s.2.2) (v6, v7, g)
theorem l_Sheet_readRule_12 {L : Nat} {xs : Nat → Int32} {Q : Option Value → ab_H → Prop} {v0 : Nat} {v1 : Nat} {v3 : Int32} {v4 : Int32} {v5 : Int32} {v6 : Int32} {v7 : Int32} {g : g_S} {r : g_S} (e : L_Sheet_readRule_12 v0 v1 v3 v4 v5 v6 v7 g = some r) (c : cL_Sheet_readRule_12 L xs Q v0 v1 v3 v4 v5 (.inr r)) : wp (ab_ext L xs) J_Sheet_readRule 12 [(0, .ref v0), (1, .ref v1), (3, .int v3), (4, .int v4), (5, .int v5), (6, .int v6), (7, .int v7)] [] (hp g) Q :=
  it_wp (P := fun s : Int32 × Int32 × g_S => wp (ab_ext L xs) J_Sheet_readRule 12 [(0, .ref v0), (1, .ref v1), (3, .int v3), (4, .int v4), (5, .int v5), (6, .int s.1), (7, .int s.2.1)] [] (hp s.2.2) Q) (E := fun r => cL_Sheet_readRule_12 L xs Q v0 v1 v3 v4 v5 (.inr r)) (fun s out e c => y_Sheet_readRule_12 e (by cases out <;> exact c)) e c
theorem L_Sheet_readRule_12_eq (v0 : Nat) (v1 : Nat) (v3 : Int32) (v4 : Int32) (v5 : Int32) (v6 : Int32) (v7 : Int32) (g : g_S) : L_Sheet_readRule_12 v0 v1 v3 v4 v5 v6 v7 g = itc (b_Sheet_readRule_12 v0 v1 v3 v4 v5 v6 v7 g) (fun s => L_Sheet_readRule_12 v0 v1 v3 v4 v5 s.1 s.2.1 s.2.2) := it_eq2 (fun s : Int32 × Int32 × g_S => b_Sheet_readRule_12 v0 v1 v3 v4 v5 s.1 s.2.1 s.2.2) (v6, v7, g)
noncomputable def k_Sheet_readRule_91 (v0 : Nat) (v1 : Nat) (v3 : Int32) (v4 : Int32) (v5 : Int32) (g : g_S) : Option g_S :=
  if v5 = 40 then
    some g
  else
    (rQ g 109 v0 8).bind fun z1 =>
    (M_Arrays_fill z1 (v5 * 11) ((v5 + 1) * 11) (-1) g).bind fun g2 =>
    (L_Sheet_readRule_128 v0 v1 v4 v5 (v3 + 1) (v3 + 1) g2).bind <| fun g5 =>
    some g5
set_option maxRecDepth 20000 in
theorem x_Sheet_readRule_91 {L : Nat} {xs : Nat → Int32} {Q : Option Value → ab_H → Prop} {v0 : Nat} {v1 : Nat} {v3 : Int32} {v4 : Int32} {v5 : Int32} {g : g_S} {out : g_S} (e : k_Sheet_readRule_91 v0 v1 v3 v4 v5 g = some out) (c : Q none (hp out)) : wp (ab_ext L xs) J_Sheet_readRule 91 [(0, .ref v0), (1, .ref v1), (3, .int v3), (4, .int v4), (5, .int v5)] [] (hp g) Q := by
  unfold k_Sheet_readRule_91 at e
  refine wp_p (j := J_Sheet_readRule) 2 (pc' := 95) (lv' := [(0, .ref v0), (1, .ref v1), (3, .int v3), (4, .int v4), (5, .int v5)]) (st' := [.int 40, .int v5]) rfl ?_
  refine x_ne e rfl (fun e => ?_) (fun e => ?_)
  · have e := Option.some.inj e; subst e; exact wp_vret rfl rfl c
  · refine wp_p (j := J_Sheet_readRule) 1 (pc' := 100) (lv' := [(0, .ref v0), (1, .ref v1), (3, .int v3), (4, .int v4), (5, .int v5)]) (st' := [.ref v0]) rfl ?_
    refine x_gQ e rfl rfl fd_9_8 rfl (fun z1 e => ?_)
    refine wp_p (j := J_Sheet_readRule) 9 (pc' := 116) (lv' := [(0, .ref v0), (1, .ref v1), (3, .int v3), (4, .int v4), (5, .int v5)]) (st' := [.int (-1), .int ((v5 + 1) * 11), .int (v5 * 11), .ref z1]) rfl ?_
    refine x_cs0 (As := [.ref z1, .int (v5 * 11), .int ((v5 + 1) * 11), .int (-1)]) (rest := []) e rfl rfl rfl rfl rfl (fun h => d_Arrays_fill h ⟨rfl, rfl⟩) (fun g2 e => ?_)
    refine wp_p (j := J_Sheet_readRule) 6 (pc' := 128) (lv' := [(7, .int (v3 + 1)), (6, .int (v3 + 1)), (0, .ref v0), (1, .ref v1), (3, .int v3), (4, .int v4), (5, .int v5)]) (st' := []) rfl ?_
    obtain ⟨g5, h4, e⟩ := bd e
    refine wp_lv (lv' := [(0, .ref v0), (1, .ref v1), (4, .int v4), (5, .int v5), (6, .int (v3 + 1)), (7, .int (v3 + 1))]) rfl ⟨rfl, rfl, rfl, rfl, rfl, rfl, trivial⟩ ?_
    refine l_Sheet_readRule_128 h4 ?_
    show wp (ab_ext L xs) J_Sheet_readRule 177 [] [] (hp g5) Q
    have e := Option.some.inj e; subst e; exact wp_vret rfl rfl c
noncomputable def M_Sheet_readRule (v0 : Nat) (v1 : Nat) (v2 : Int32) (v3 : Int32) (v4 : Int32) (g : g_S) : Option g_S :=
  (rI g 109 v0 13).bind fun z1 =>
  (L_Sheet_readRule_12 v0 v1 v3 v4 z1 v2 v2 g).bind <| fun g4 =>
  k_Sheet_readRule_91 v0 v1 v3 v4 z1 g4
set_option maxRecDepth 20000 in
theorem d_Sheet_readRule {L : Nat} {xs : Nat → Int32} {Q : Option Value → ab_H → Prop} {v0 : Nat} {v1 : Nat} {v2 : Int32} {v3 : Int32} {v4 : Int32} {g : g_S} {out : g_S} (e : M_Sheet_readRule v0 v1 v2 v3 v4 g = some out) (c : Q none (hp out)) : mw (ab_ext L xs) J_Sheet_readRule [.ref v0, .ref v1, .int v2, .int v3, .int v4] (hp g) Q := by
  unfold M_Sheet_readRule at e
  refine wp_p (j := J_Sheet_readRule) 1 (pc' := 1) (lv' := [(0, .ref v0), (1, .ref v1), (2, .int v2), (3, .int v3), (4, .int v4)]) (st' := [.ref v0]) rfl ?_
  refine x_gI e rfl rfl fd_9_13 rfl (fun z1 e => ?_)
  refine wp_p (j := J_Sheet_readRule) 5 (pc' := 12) (lv' := [(7, .int v2), (6, .int v2), (5, .int z1), (0, .ref v0), (1, .ref v1), (2, .int v2), (3, .int v3), (4, .int v4)]) (st' := []) rfl ?_
  obtain ⟨g4, h3, e⟩ := bd e
  refine wp_lv (lv' := [(0, .ref v0), (1, .ref v1), (3, .int v3), (4, .int v4), (5, .int z1), (6, .int v2), (7, .int v2)]) rfl ⟨rfl, rfl, rfl, rfl, rfl, rfl, rfl, trivial⟩ ?_
  refine l_Sheet_readRule_12 h3 ?_
  show wp (ab_ext L xs) J_Sheet_readRule 91 [(0, .ref v0), (1, .ref v1), (3, .int v3), (4, .int v4), (5, .int z1)] [] (hp g4) Q
  exact wp_lv (lv' := [(0, .ref v0), (1, .ref v1), (3, .int v3), (4, .int v4), (5, .int z1)]) rfl ⟨rfl, rfl, rfl, rfl, rfl, trivial⟩ (x_Sheet_readRule_91 e c)
def cL_Sheet_readSheet_5 (L : Nat) (xs : Nat → Int32) (Q : Option Value → ab_H → Prop) (v0 : Nat) (v1 : Nat) (v2 : Int32) (out : (Int32 × Int32 × g_S) ⊕ (g_S)) : Prop := match out with
  | .inl s => wp (ab_ext L xs) J_Sheet_readSheet 5 [(0, .ref v0), (1, .ref v1), (2, .int v2), (3, .int s.1), (4, .int s.2.1)] [] (hp s.2.2) Q
  | .inr s => wp (ab_ext L xs) J_Sheet_readSheet 82 [] [] (hp s) Q
noncomputable def k_Sheet_readSheet_71 (v0 : Nat) (v1 : Nat) (v2 : Int32) (v4 : Int32) (v5 : Int32) (g : g_S) : Option ((Int32 × Int32 × g_S) ⊕ (g_S)) :=
  some (.inl (v5 + 1, v4 + 1, g))
set_option maxRecDepth 20000 in
theorem x_Sheet_readSheet_71 {L : Nat} {xs : Nat → Int32} {Q : Option Value → ab_H → Prop} {v0 : Nat} {v1 : Nat} {v2 : Int32} {v4 : Int32} {v5 : Int32} {g : g_S} {out : (Int32 × Int32 × g_S) ⊕ (g_S)} (e : k_Sheet_readSheet_71 v0 v1 v2 v4 v5 g = some out) (c : cL_Sheet_readSheet_5 L xs Q v0 v1 v2 out) : wp (ab_ext L xs) J_Sheet_readSheet 71 [(0, .ref v0), (1, .ref v1), (2, .int v2), (4, .int v4), (5, .int v5)] [] (hp g) Q := by
  unfold k_Sheet_readSheet_71 at e
  refine wp_p (j := J_Sheet_readSheet) 6 (pc' := 5) (lv' := [(4, .int (v4 + 1)), (3, .int (v5 + 1)), (0, .ref v0), (1, .ref v1), (2, .int v2), (5, .int v5)]) (st' := []) rfl ?_
  have e := Option.some.inj e; subst e; exact wp_lv (lv' := [(0, .ref v0), (1, .ref v1), (2, .int v2), (3, .int (v5 + 1)), (4, .int (v4 + 1))]) rfl ⟨rfl, rfl, rfl, rfl, rfl, trivial⟩ c
noncomputable def b_Sheet_readSheet_5 (v0 : Nat) (v1 : Nat) (v2 : Int32) (v3 : Int32) (v4 : Int32) (g : g_S) : Option ((Int32 × Int32 × g_S) ⊕ (g_S)) :=
  if v4 < v2 then
    if v3 < v2 then
      (M_Sheet_indexOf v1 v3 v2 125 g).bind fun z1 =>
      (M_Sheet_indexOf v1 v3 z1 123 g).bind fun z2 =>
      if z1 < v2 then
        if z2 < z1 then
          c2 (vc g 109 v0 (M_Sheet_areSelectors v0 v1 v3 z2 g)) fun z3 g4 =>
          if z3 = 0 then
            k_Sheet_readSheet_71 v0 v1 v2 v4 z1 g4
          else
            (vc g4 109 v0 (M_Sheet_readRule v0 v1 v3 z2 z1 g4)).bind fun g5 =>
            k_Sheet_readSheet_71 v0 v1 v2 v4 z1 g5
        else
          k_Sheet_readSheet_71 v0 v1 v2 v4 z1 g
      else
        k_Sheet_readSheet_71 v0 v1 v2 v4 z1 g
    else
      some (.inr g)
  else
    some (.inr g)
set_option maxRecDepth 20000 in
theorem y_Sheet_readSheet_5 {L : Nat} {xs : Nat → Int32} {Q : Option Value → ab_H → Prop} {v0 : Nat} {v1 : Nat} {v2 : Int32} {v3 : Int32} {v4 : Int32} {g : g_S} {out : (Int32 × Int32 × g_S) ⊕ (g_S)} (e : b_Sheet_readSheet_5 v0 v1 v2 v3 v4 g = some out) (c : cL_Sheet_readSheet_5 L xs Q v0 v1 v2 out) : wp (ab_ext L xs) J_Sheet_readSheet 5 [(0, .ref v0), (1, .ref v1), (2, .int v2), (3, .int v3), (4, .int v4)] [] (hp g) Q := by
  unfold b_Sheet_readSheet_5 at e
  refine wp_p (j := J_Sheet_readSheet) 2 (pc' := 8) (lv' := [(0, .ref v0), (1, .ref v1), (2, .int v2), (3, .int v3), (4, .int v4)]) (st' := [.int v2, .int v4]) rfl ?_
  refine x_ge e rfl (fun e => ?_) (fun e => ?_)
  · refine wp_p (j := J_Sheet_readSheet) 2 (pc' := 13) (lv' := [(0, .ref v0), (1, .ref v1), (2, .int v2), (3, .int v3), (4, .int v4)]) (st' := [.int v2, .int v3]) rfl ?_
    refine x_ge e rfl (fun e => ?_) (fun e => ?_)
    · refine wp_p (j := J_Sheet_readSheet) 4 (pc' := 21) (lv' := [(0, .ref v0), (1, .ref v1), (2, .int v2), (3, .int v3), (4, .int v4)]) (st' := [.int 125, .int v2, .int v3, .ref v1]) rfl ?_
      refine x_cs1 (As := [.ref v1, .int v3, .int v2, .int 125]) (rest := []) Value.int e rfl rfl rfl rfl rfl (fun h => d_Sheet_indexOf h ⟨rfl, rfl⟩) (fun z1 e => ?_)
      refine wp_p (j := J_Sheet_readSheet) 5 (pc' := 32) (lv' := [(5, .int z1), (0, .ref v0), (1, .ref v1), (2, .int v2), (3, .int v3), (4, .int v4)]) (st' := [.int 123, .int z1, .int v3, .ref v1]) rfl ?_
      refine x_cs1 (As := [.ref v1, .int v3, .int z1, .int 123]) (rest := []) Value.int e rfl rfl rfl rfl rfl (fun h => d_Sheet_indexOf h ⟨rfl, rfl⟩) (fun z2 e => ?_)
      refine wp_p (j := J_Sheet_readSheet) 3 (pc' := 40) (lv' := [(6, .int z2), (5, .int z1), (0, .ref v0), (1, .ref v1), (2, .int v2), (3, .int v3), (4, .int v4)]) (st' := [.int v2, .int z1]) rfl ?_
      refine x_ge e rfl (fun e => ?_) (fun e => ?_)
      · refine wp_p (j := J_Sheet_readSheet) 2 (pc' := 47) (lv' := [(6, .int z2), (5, .int z1), (0, .ref v0), (1, .ref v1), (2, .int v2), (3, .int v3), (4, .int v4)]) (st' := [.int z1, .int z2]) rfl ?_
        refine x_ge e rfl (fun e => ?_) (fun e => ?_)
        · refine wp_p (j := J_Sheet_readSheet) 4 (pc' := 55) (lv' := [(6, .int z2), (5, .int z1), (0, .ref v0), (1, .ref v1), (2, .int v2), (3, .int v3), (4, .int v4)]) (st' := [.int z2, .int v3, .ref v1, .ref v0]) rfl ?_
          refine x_cv2 (As := [.ref v1, .int v3, .int z2]) (rest := []) Value.int e rfl rfl rfl rfl rfl rfl (fun h => d_Sheet_areSelectors h ⟨rfl, rfl⟩) (fun z3 g4 e => ?_)
          refine z_eq e rfl (fun e => ?_) (fun e => ?_)
          · exact wp_lv (lv' := [(0, .ref v0), (1, .ref v1), (2, .int v2), (4, .int v4), (5, .int z1)]) rfl ⟨rfl, rfl, rfl, rfl, rfl, trivial⟩ (x_Sheet_readSheet_71 e c)
          · refine wp_p (j := J_Sheet_readSheet) 5 (pc' := 68) (lv' := [(6, .int z2), (5, .int z1), (0, .ref v0), (1, .ref v1), (2, .int v2), (3, .int v3), (4, .int v4)]) (st' := [.int z1, .int z2, .int v3, .ref v1, .ref v0]) rfl ?_
            refine x_cv0 (As := [.ref v1, .int v3, .int z2, .int z1]) (rest := []) e rfl rfl rfl rfl rfl rfl (fun h => d_Sheet_readRule h ⟨rfl, rfl⟩) (fun g5 e => ?_)
            exact wp_lv (lv' := [(0, .ref v0), (1, .ref v1), (2, .int v2), (4, .int v4), (5, .int z1)]) rfl ⟨rfl, rfl, rfl, rfl, rfl, trivial⟩ (x_Sheet_readSheet_71 e c)
        · exact wp_lv (lv' := [(0, .ref v0), (1, .ref v1), (2, .int v2), (4, .int v4), (5, .int z1)]) rfl ⟨rfl, rfl, rfl, rfl, rfl, trivial⟩ (x_Sheet_readSheet_71 e c)
      · exact wp_lv (lv' := [(0, .ref v0), (1, .ref v1), (2, .int v2), (4, .int v4), (5, .int z1)]) rfl ⟨rfl, rfl, rfl, rfl, rfl, trivial⟩ (x_Sheet_readSheet_71 e c)
    · have e := Option.some.inj e; subst e; exact wp_lv (lv' := []) rfl trivial c
  · have e := Option.some.inj e; subst e; exact wp_lv (lv' := []) rfl trivial c
noncomputable def L_Sheet_readSheet_5 (v0 : Nat) (v1 : Nat) (v2 : Int32) (v3 : Int32) (v4 : Int32) (g : g_S) : Option (g_S) := it (fun s : Int32 × Int32 × g_S => b_Sheet_readSheet_5 v0 v1 v2 s.1 s.2.1 s.2.2) (v3, v4, g)
theorem l_Sheet_readSheet_5 {L : Nat} {xs : Nat → Int32} {Q : Option Value → ab_H → Prop} {v0 : Nat} {v1 : Nat} {v2 : Int32} {v3 : Int32} {v4 : Int32} {g : g_S} {r : g_S} (e : L_Sheet_readSheet_5 v0 v1 v2 v3 v4 g = some r) (c : cL_Sheet_readSheet_5 L xs Q v0 v1 v2 (.inr r)) : wp (ab_ext L xs) J_Sheet_readSheet 5 [(0, .ref v0), (1, .ref v1), (2, .int v2), (3, .int v3), (4, .int v4)] [] (hp g) Q :=
  it_wp (P := fun s : Int32 × Int32 × g_S => wp (ab_ext L xs) J_Sheet_readSheet 5 [(0, .ref v0), (1, .ref v1), (2, .int v2), (3, .int s.1), (4, .int s.2.1)] [] (hp s.2.2) Q) (E := fun r => cL_Sheet_readSheet_5 L xs Q v0 v1 v2 (.inr r)) (fun s out e c => y_Sheet_readSheet_5 e (by cases out <;> exact c)) e c
theorem L_Sheet_readSheet_5_eq (v0 : Nat) (v1 : Nat) (v2 : Int32) (v3 : Int32) (v4 : Int32) (g : g_S) : L_Sheet_readSheet_5 v0 v1 v2 v3 v4 g = itc (b_Sheet_readSheet_5 v0 v1 v2 v3 v4 g) (fun s => L_Sheet_readSheet_5 v0 v1 v2 s.1 s.2.1 s.2.2) := it_eq2 (fun s : Int32 × Int32 × g_S => b_Sheet_readSheet_5 v0 v1 v2 s.1 s.2.1 s.2.2) (v3, v4, g)
noncomputable def M_Sheet_readSheet (v0 : Nat) (v1 : Nat) (v2 : Int32) (g : g_S) : Option g_S :=
  (L_Sheet_readSheet_5 v0 v1 v2 0 0 g).bind <| fun g3 =>
  some g3
set_option maxRecDepth 20000 in
theorem d_Sheet_readSheet {L : Nat} {xs : Nat → Int32} {Q : Option Value → ab_H → Prop} {v0 : Nat} {v1 : Nat} {v2 : Int32} {g : g_S} {out : g_S} (e : M_Sheet_readSheet v0 v1 v2 g = some out) (c : Q none (hp out)) : mw (ab_ext L xs) J_Sheet_readSheet [.ref v0, .ref v1, .int v2] (hp g) Q := by
  unfold M_Sheet_readSheet at e
  refine wp_p (j := J_Sheet_readSheet) 4 (pc' := 5) (lv' := [(4, .int 0), (3, .int 0), (0, .ref v0), (1, .ref v1), (2, .int v2)]) (st' := []) rfl ?_
  obtain ⟨g3, h2, e⟩ := bd e
  refine wp_lv (lv' := [(0, .ref v0), (1, .ref v1), (2, .int v2), (3, .int 0), (4, .int 0)]) rfl ⟨rfl, rfl, rfl, rfl, rfl, trivial⟩ ?_
  refine l_Sheet_readSheet_5 h2 ?_
  show wp (ab_ext L xs) J_Sheet_readSheet 82 [] [] (hp g3) Q
  have e := Option.some.inj e; subst e; exact wp_vret rfl rfl c
noncomputable def M_Sheet_usual (v0 : Nat) (v1 : Nat) (v2 : Int32) (g : g_S) : Option Int32 :=
  (rI g 107 v1 0).bind fun z1 =>
  if v2 = 0 then
    if z1 = 15 then
      some 2
    else
      if 5 < z1 then
        if z1 = 11 then
          some 0
        else
          some 1
      else
        some 0
  else if v2 = 1 then
    (rI g 107 v1 2).bind fun z4 =>
    if z4 = (-1) then
      some 63
    else
      (rQ g 109 v0 10).bind fun z5 =>
      (rI g 107 v1 2).bind fun z6 =>
      (aI g 0 z5 ((z6 * 11) + 1)).bind fun z7 =>
      some z7
  else if v2 = 2 then
    some (-1)
  else if v2 = 3 then
    if z1 = 1 then
      some 2
    else
      if z1 = 2 then
        some 2
      else
        if z1 = 3 then
          some 2
        else
          some 0
  else if v2 = 4 then
    if z1 = 3 then
      some 4
    else
      if z1 = 14 then
        some 1
      else
        some 0
  else if v2 = 5 then
    if z1 = 14 then
      some 1
    else
      if z1 = 13 then
        some 1
      else
        if z1 = 11 then
          some 1
        else
          some 0
  else if v2 = 6 then
    some (-1)
  else if v2 = 7 then
    some (-1)
  else if v2 = 8 then
    if z1 = 2 then
      some 2
    else
      (rI g 107 v1 2).bind fun z15 =>
      if z15 = (-1) then
        some 1
      else
        (rQ g 109 v0 10).bind fun z16 =>
        (rI g 107 v1 2).bind fun z17 =>
        (aI g 0 z16 ((z17 * 11) + 8)).bind fun z18 =>
        some z18
  else if v2 = 9 then
    (rI g 107 v1 2).bind fun z20 =>
    if z20 = (-1) then
      some 0
    else
      (rQ g 109 v0 10).bind fun z21 =>
      (rI g 107 v1 2).bind fun z22 =>
      (aI g 0 z21 ((z22 * 11) + 9)).bind fun z23 =>
      some z23
  else if v2 = 10 then
    some 0
  else
    some (-1)
set_option maxRecDepth 20000 in
theorem d_Sheet_usual {L : Nat} {xs : Nat → Int32} {Q : Option Value → ab_H → Prop} {v0 : Nat} {v1 : Nat} {v2 : Int32} {g : g_S} {out : Int32} (e : M_Sheet_usual v0 v1 v2 g = some out) (c : Q (some (.int out)) (hp g)) : mw (ab_ext L xs) J_Sheet_usual [.ref v0, .ref v1, .int v2] (hp g) Q := by
  unfold M_Sheet_usual at e
  refine wp_p (j := J_Sheet_usual) 1 (pc' := 1) (lv' := [(0, .ref v0), (1, .ref v1), (2, .int v2)]) (st' := [.ref v1]) rfl ?_
  refine x_gI e rfl rfl fd_7_0 rfl (fun z1 e => ?_)
  refine wp_p (j := J_Sheet_usual) 2 (pc' := 6) (lv' := [(3, .int z1), (0, .ref v0), (1, .ref v1), (2, .int v2)]) (st' := [.int v2]) rfl ?_
  refine x_if e (fun h2 e => ?_) (fun h2 e => ?_)
  · refine x_sw (cst := 0) (pc' := 64) (rest := []) h2 rfl rfl rfl ?_
    refine wp_p (j := J_Sheet_usual) 2 (pc' := 67) (lv' := [(3, .int z1), (0, .ref v0), (1, .ref v1), (2, .int v2)]) (st' := [.int 15, .int z1]) rfl ?_
    refine x_ne e rfl (fun e => ?_) (fun e => ?_)
    · refine wp_p (j := J_Sheet_usual) 1 (pc' := 71) (lv' := [(3, .int z1), (0, .ref v0), (1, .ref v1), (2, .int v2)]) (st' := [.int 2]) rfl ?_
      have e := Option.some.inj e; subst e; exact wp_iret (ty := .int) rfl rfl rfl c
    · refine wp_p (j := J_Sheet_usual) 2 (pc' := 74) (lv' := [(3, .int z1), (0, .ref v0), (1, .ref v1), (2, .int v2)]) (st' := [.int 5, .int z1]) rfl ?_
      refine x_le e rfl (fun e => ?_) (fun e => ?_)
      · refine wp_p (j := J_Sheet_usual) 2 (pc' := 80) (lv' := [(3, .int z1), (0, .ref v0), (1, .ref v1), (2, .int v2)]) (st' := [.int 11, .int z1]) rfl ?_
        refine x_ne e rfl (fun e => ?_) (fun e => ?_)
        · refine wp_p (j := J_Sheet_usual) 2 (pc' := 88) (lv' := [(3, .int z1), (0, .ref v0), (1, .ref v1), (2, .int v2)]) (st' := [.int 0]) rfl ?_
          have e := Option.some.inj e; subst e; exact wp_iret (ty := .int) rfl rfl rfl c
        · refine wp_p (j := J_Sheet_usual) 1 (pc' := 88) (lv' := [(3, .int z1), (0, .ref v0), (1, .ref v1), (2, .int v2)]) (st' := [.int 1]) rfl ?_
          have e := Option.some.inj e; subst e; exact wp_iret (ty := .int) rfl rfl rfl c
      · refine wp_p (j := J_Sheet_usual) 2 (pc' := 88) (lv' := [(3, .int z1), (0, .ref v0), (1, .ref v1), (2, .int v2)]) (st' := [.int 0]) rfl ?_
        have e := Option.some.inj e; subst e; exact wp_iret (ty := .int) rfl rfl rfl c
  refine x_if e (fun h3 e => ?_) (fun h3 e => ?_)
  · refine x_sw (cst := 1) (pc' := 89) (rest := []) h3 rfl rfl rfl ?_
    refine wp_p (j := J_Sheet_usual) 1 (pc' := 90) (lv' := [(3, .int z1), (0, .ref v0), (1, .ref v1), (2, .int v2)]) (st' := [.ref v1]) rfl ?_
    refine x_gI e rfl rfl fd_7_2 rfl (fun z4 e => ?_)
    refine wp_p (j := J_Sheet_usual) 1 (pc' := 94) (lv' := [(3, .int z1), (0, .ref v0), (1, .ref v1), (2, .int v2)]) (st' := [.int (-1), .int z4]) rfl ?_
    refine x_ne e rfl (fun e => ?_) (fun e => ?_)
    · refine wp_p (j := J_Sheet_usual) 2 (pc' := 116) (lv' := [(3, .int z1), (0, .ref v0), (1, .ref v1), (2, .int v2)]) (st' := [.int 63]) rfl ?_
      have e := Option.some.inj e; subst e; exact wp_iret (ty := .int) rfl rfl rfl c
    · refine wp_p (j := J_Sheet_usual) 1 (pc' := 103) (lv' := [(3, .int z1), (0, .ref v0), (1, .ref v1), (2, .int v2)]) (st' := [.ref v0]) rfl ?_
      refine x_gQ e rfl rfl fd_9_10 rfl (fun z5 e => ?_)
      refine wp_p (j := J_Sheet_usual) 1 (pc' := 107) (lv' := [(3, .int z1), (0, .ref v0), (1, .ref v1), (2, .int v2)]) (st' := [.ref v1, .ref z5]) rfl ?_
      refine x_gI e rfl rfl fd_7_2 rfl (fun z6 e => ?_)
      refine wp_p (j := J_Sheet_usual) 4 (pc' := 115) (lv' := [(3, .int z1), (0, .ref v0), (1, .ref v1), (2, .int v2)]) (st' := [.int ((z6 * 11) + 1), .ref z5]) rfl ?_
      refine x_aI e rfl rfl (fun z7 e => ?_)
      have e := Option.some.inj e; subst e; exact wp_iret (ty := .int) rfl rfl rfl c
  refine x_if e (fun h8 e => ?_) (fun h8 e => ?_)
  · refine x_sw (cst := 2) (pc' := 246) (rest := []) h8 rfl rfl rfl ?_
    refine wp_p (j := J_Sheet_usual) 1 (pc' := 247) (lv' := [(3, .int z1), (0, .ref v0), (1, .ref v1), (2, .int v2)]) (st' := [.int (-1)]) rfl ?_
    have e := Option.some.inj e; subst e; exact wp_iret (ty := .int) rfl rfl rfl c
  refine x_if e (fun h9 e => ?_) (fun h9 e => ?_)
  · refine x_sw (cst := 3) (pc' := 180) (rest := []) h9 rfl rfl rfl ?_
    refine wp_p (j := J_Sheet_usual) 2 (pc' := 182) (lv' := [(3, .int z1), (0, .ref v0), (1, .ref v1), (2, .int v2)]) (st' := [.int 1, .int z1]) rfl ?_
    refine x_eq e rfl (fun e => ?_) (fun e => ?_)
    · refine wp_p (j := J_Sheet_usual) 2 (pc' := 200) (lv' := [(3, .int z1), (0, .ref v0), (1, .ref v1), (2, .int v2)]) (st' := [.int 2]) rfl ?_
      have e := Option.some.inj e; subst e; exact wp_iret (ty := .int) rfl rfl rfl c
    · refine wp_p (j := J_Sheet_usual) 2 (pc' := 187) (lv' := [(3, .int z1), (0, .ref v0), (1, .ref v1), (2, .int v2)]) (st' := [.int 2, .int z1]) rfl ?_
      refine x_eq e rfl (fun e => ?_) (fun e => ?_)
      · refine wp_p (j := J_Sheet_usual) 2 (pc' := 200) (lv' := [(3, .int z1), (0, .ref v0), (1, .ref v1), (2, .int v2)]) (st' := [.int 2]) rfl ?_
        have e := Option.some.inj e; subst e; exact wp_iret (ty := .int) rfl rfl rfl c
      · refine wp_p (j := J_Sheet_usual) 2 (pc' := 192) (lv' := [(3, .int z1), (0, .ref v0), (1, .ref v1), (2, .int v2)]) (st' := [.int 3, .int z1]) rfl ?_
        refine x_ne e rfl (fun e => ?_) (fun e => ?_)
        · refine wp_p (j := J_Sheet_usual) 2 (pc' := 200) (lv' := [(3, .int z1), (0, .ref v0), (1, .ref v1), (2, .int v2)]) (st' := [.int 2]) rfl ?_
          have e := Option.some.inj e; subst e; exact wp_iret (ty := .int) rfl rfl rfl c
        · refine wp_p (j := J_Sheet_usual) 1 (pc' := 200) (lv' := [(3, .int z1), (0, .ref v0), (1, .ref v1), (2, .int v2)]) (st' := [.int 0]) rfl ?_
          have e := Option.some.inj e; subst e; exact wp_iret (ty := .int) rfl rfl rfl c
  refine x_if e (fun h10 e => ?_) (fun h10 e => ?_)
  · refine x_sw (cst := 4) (pc' := 201) (rest := []) h10 rfl rfl rfl ?_
    refine wp_p (j := J_Sheet_usual) 2 (pc' := 203) (lv' := [(3, .int z1), (0, .ref v0), (1, .ref v1), (2, .int v2)]) (st' := [.int 3, .int z1]) rfl ?_
    refine x_ne e rfl (fun e => ?_) (fun e => ?_)
    · refine wp_p (j := J_Sheet_usual) 1 (pc' := 207) (lv' := [(3, .int z1), (0, .ref v0), (1, .ref v1), (2, .int v2)]) (st' := [.int 4]) rfl ?_
      have e := Option.some.inj e; subst e; exact wp_iret (ty := .int) rfl rfl rfl c
    · refine wp_p (j := J_Sheet_usual) 2 (pc' := 211) (lv' := [(3, .int z1), (0, .ref v0), (1, .ref v1), (2, .int v2)]) (st' := [.int 14, .int z1]) rfl ?_
      refine x_ne e rfl (fun e => ?_) (fun e => ?_)
      · refine wp_p (j := J_Sheet_usual) 2 (pc' := 219) (lv' := [(3, .int z1), (0, .ref v0), (1, .ref v1), (2, .int v2)]) (st' := [.int 1]) rfl ?_
        have e := Option.some.inj e; subst e; exact wp_iret (ty := .int) rfl rfl rfl c
      · refine wp_p (j := J_Sheet_usual) 1 (pc' := 219) (lv' := [(3, .int z1), (0, .ref v0), (1, .ref v1), (2, .int v2)]) (st' := [.int 0]) rfl ?_
        have e := Option.some.inj e; subst e; exact wp_iret (ty := .int) rfl rfl rfl c
  refine x_if e (fun h11 e => ?_) (fun h11 e => ?_)
  · refine x_sw (cst := 5) (pc' := 220) (rest := []) h11 rfl rfl rfl ?_
    refine wp_p (j := J_Sheet_usual) 2 (pc' := 223) (lv' := [(3, .int z1), (0, .ref v0), (1, .ref v1), (2, .int v2)]) (st' := [.int 14, .int z1]) rfl ?_
    refine x_eq e rfl (fun e => ?_) (fun e => ?_)
    · refine wp_p (j := J_Sheet_usual) 2 (pc' := 243) (lv' := [(3, .int z1), (0, .ref v0), (1, .ref v1), (2, .int v2)]) (st' := [.int 1]) rfl ?_
      have e := Option.some.inj e; subst e; exact wp_iret (ty := .int) rfl rfl rfl c
    · refine wp_p (j := J_Sheet_usual) 2 (pc' := 229) (lv' := [(3, .int z1), (0, .ref v0), (1, .ref v1), (2, .int v2)]) (st' := [.int 13, .int z1]) rfl ?_
      refine x_eq e rfl (fun e => ?_) (fun e => ?_)
      · refine wp_p (j := J_Sheet_usual) 2 (pc' := 243) (lv' := [(3, .int z1), (0, .ref v0), (1, .ref v1), (2, .int v2)]) (st' := [.int 1]) rfl ?_
        have e := Option.some.inj e; subst e; exact wp_iret (ty := .int) rfl rfl rfl c
      · refine wp_p (j := J_Sheet_usual) 2 (pc' := 235) (lv' := [(3, .int z1), (0, .ref v0), (1, .ref v1), (2, .int v2)]) (st' := [.int 11, .int z1]) rfl ?_
        refine x_ne e rfl (fun e => ?_) (fun e => ?_)
        · refine wp_p (j := J_Sheet_usual) 2 (pc' := 243) (lv' := [(3, .int z1), (0, .ref v0), (1, .ref v1), (2, .int v2)]) (st' := [.int 1]) rfl ?_
          have e := Option.some.inj e; subst e; exact wp_iret (ty := .int) rfl rfl rfl c
        · refine wp_p (j := J_Sheet_usual) 1 (pc' := 243) (lv' := [(3, .int z1), (0, .ref v0), (1, .ref v1), (2, .int v2)]) (st' := [.int 0]) rfl ?_
          have e := Option.some.inj e; subst e; exact wp_iret (ty := .int) rfl rfl rfl c
  refine x_if e (fun h12 e => ?_) (fun h12 e => ?_)
  · refine x_sw (cst := 6) (pc' := 246) (rest := []) h12 rfl rfl rfl ?_
    refine wp_p (j := J_Sheet_usual) 1 (pc' := 247) (lv' := [(3, .int z1), (0, .ref v0), (1, .ref v1), (2, .int v2)]) (st' := [.int (-1)]) rfl ?_
    have e := Option.some.inj e; subst e; exact wp_iret (ty := .int) rfl rfl rfl c
  refine x_if e (fun h13 e => ?_) (fun h13 e => ?_)
  · refine x_sw (cst := 7) (pc' := 246) (rest := []) h13 rfl rfl rfl ?_
    refine wp_p (j := J_Sheet_usual) 1 (pc' := 247) (lv' := [(3, .int z1), (0, .ref v0), (1, .ref v1), (2, .int v2)]) (st' := [.int (-1)]) rfl ?_
    have e := Option.some.inj e; subst e; exact wp_iret (ty := .int) rfl rfl rfl c
  refine x_if e (fun h14 e => ?_) (fun h14 e => ?_)
  · refine x_sw (cst := 8) (pc' := 117) (rest := []) h14 rfl rfl rfl ?_
    refine wp_p (j := J_Sheet_usual) 2 (pc' := 119) (lv' := [(3, .int z1), (0, .ref v0), (1, .ref v1), (2, .int v2)]) (st' := [.int 2, .int z1]) rfl ?_
    refine x_ne e rfl (fun e => ?_) (fun e => ?_)
    · refine wp_p (j := J_Sheet_usual) 1 (pc' := 123) (lv' := [(3, .int z1), (0, .ref v0), (1, .ref v1), (2, .int v2)]) (st' := [.int 2]) rfl ?_
      have e := Option.some.inj e; subst e; exact wp_iret (ty := .int) rfl rfl rfl c
    · refine wp_p (j := J_Sheet_usual) 1 (pc' := 125) (lv' := [(3, .int z1), (0, .ref v0), (1, .ref v1), (2, .int v2)]) (st' := [.ref v1]) rfl ?_
      refine x_gI e rfl rfl fd_7_2 rfl (fun z15 e => ?_)
      refine wp_p (j := J_Sheet_usual) 1 (pc' := 129) (lv' := [(3, .int z1), (0, .ref v0), (1, .ref v1), (2, .int v2)]) (st' := [.int (-1), .int z15]) rfl ?_
      refine x_ne e rfl (fun e => ?_) (fun e => ?_)
      · refine wp_p (j := J_Sheet_usual) 2 (pc' := 151) (lv' := [(3, .int z1), (0, .ref v0), (1, .ref v1), (2, .int v2)]) (st' := [.int 1]) rfl ?_
        have e := Option.some.inj e; subst e; exact wp_iret (ty := .int) rfl rfl rfl c
      · refine wp_p (j := J_Sheet_usual) 1 (pc' := 137) (lv' := [(3, .int z1), (0, .ref v0), (1, .ref v1), (2, .int v2)]) (st' := [.ref v0]) rfl ?_
        refine x_gQ e rfl rfl fd_9_10 rfl (fun z16 e => ?_)
        refine wp_p (j := J_Sheet_usual) 1 (pc' := 141) (lv' := [(3, .int z1), (0, .ref v0), (1, .ref v1), (2, .int v2)]) (st' := [.ref v1, .ref z16]) rfl ?_
        refine x_gI e rfl rfl fd_7_2 rfl (fun z17 e => ?_)
        refine wp_p (j := J_Sheet_usual) 4 (pc' := 150) (lv' := [(3, .int z1), (0, .ref v0), (1, .ref v1), (2, .int v2)]) (st' := [.int ((z17 * 11) + 8), .ref z16]) rfl ?_
        refine x_aI e rfl rfl (fun z18 e => ?_)
        have e := Option.some.inj e; subst e; exact wp_iret (ty := .int) rfl rfl rfl c
  refine x_if e (fun h19 e => ?_) (fun h19 e => ?_)
  · refine x_sw (cst := 9) (pc' := 152) (rest := []) h19 rfl rfl rfl ?_
    refine wp_p (j := J_Sheet_usual) 1 (pc' := 153) (lv' := [(3, .int z1), (0, .ref v0), (1, .ref v1), (2, .int v2)]) (st' := [.ref v1]) rfl ?_
    refine x_gI e rfl rfl fd_7_2 rfl (fun z20 e => ?_)
    refine wp_p (j := J_Sheet_usual) 1 (pc' := 157) (lv' := [(3, .int z1), (0, .ref v0), (1, .ref v1), (2, .int v2)]) (st' := [.int (-1), .int z20]) rfl ?_
    refine x_ne e rfl (fun e => ?_) (fun e => ?_)
    · refine wp_p (j := J_Sheet_usual) 2 (pc' := 179) (lv' := [(3, .int z1), (0, .ref v0), (1, .ref v1), (2, .int v2)]) (st' := [.int 0]) rfl ?_
      have e := Option.some.inj e; subst e; exact wp_iret (ty := .int) rfl rfl rfl c
    · refine wp_p (j := J_Sheet_usual) 1 (pc' := 165) (lv' := [(3, .int z1), (0, .ref v0), (1, .ref v1), (2, .int v2)]) (st' := [.ref v0]) rfl ?_
      refine x_gQ e rfl rfl fd_9_10 rfl (fun z21 e => ?_)
      refine wp_p (j := J_Sheet_usual) 1 (pc' := 169) (lv' := [(3, .int z1), (0, .ref v0), (1, .ref v1), (2, .int v2)]) (st' := [.ref v1, .ref z21]) rfl ?_
      refine x_gI e rfl rfl fd_7_2 rfl (fun z22 e => ?_)
      refine wp_p (j := J_Sheet_usual) 4 (pc' := 178) (lv' := [(3, .int z1), (0, .ref v0), (1, .ref v1), (2, .int v2)]) (st' := [.int ((z22 * 11) + 9), .ref z21]) rfl ?_
      refine x_aI e rfl rfl (fun z23 e => ?_)
      have e := Option.some.inj e; subst e; exact wp_iret (ty := .int) rfl rfl rfl c
  refine x_if e (fun h24 e => ?_) (fun h24 e => ?_)
  · refine x_sw (cst := 10) (pc' := 244) (rest := []) h24 rfl rfl rfl ?_
    refine wp_p (j := J_Sheet_usual) 1 (pc' := 245) (lv' := [(3, .int z1), (0, .ref v0), (1, .ref v1), (2, .int v2)]) (st' := [.int 0]) rfl ?_
    have e := Option.some.inj e; subst e; exact wp_iret (ty := .int) rfl rfl rfl c
  refine wp_b (pc' := 246) (st' := []) rfl rfl ((ts_d (x := v2) (lo := 0) 11 rfl ⟨h2, h3, h8, h9, h10, h11, h12, h13, h14, h19, h24, trivial⟩).trans rfl) ?_
  refine wp_p (j := J_Sheet_usual) 1 (pc' := 247) (lv' := [(3, .int z1), (0, .ref v0), (1, .ref v1), (2, .int v2)]) (st' := [.int (-1)]) rfl ?_
  have e := Option.some.inj e; subst e; exact wp_iret (ty := .int) rfl rfl rfl c
