/-! methods as functions, group 10 -/
def cL_Y_endTag_7 (L : Nat) (xs : Nat → Int32) (Q : Option Value → ab_H → Prop) (v0 : Nat) (v1 : Int32) (v2 : Int32) (g : g_S) (out : (Int32) ⊕ (Int32)) : Prop := match out with
  | .inl s => wp (ab_ext L xs) J_Y_endTag 7 [(0, .ref v0), (1, .int v1), (2, .int v2), (3, .int s)] [] (hp g) Q
  | .inr s => wp (ab_ext L xs) J_Y_endTag 84 [(0, .ref v0), (1, .int v1), (2, .int v2), (3, .int s)] [] (hp g) Q
noncomputable def b_Y_endTag_7 (v0 : Nat) (v1 : Int32) (v2 : Int32) (v3 : Int32) (g : g_S) : Option ((Int32) ⊕ (Int32)) :=
  if 0 < v3 then
    (rQ g 112 v0 46).bind fun z1 =>
    (rQ g 112 v0 73).bind fun z2 =>
    (aI g 0 z2 v3).bind fun z3 =>
    (aI g 0 z1 z3).bind fun z4 =>
    if z4 = v2 then
      if v2 = 16 then
        (rQ g 112 v0 48).bind fun z5 =>
        (rQ g 112 v0 73).bind fun z6 =>
        (aI g 0 z6 v3).bind fun z7 =>
        (aI g 0 z5 z7).bind fun z8 =>
        (rI g 112 v0 79).bind fun z9 =>
        if z8 = z9 then
          (rQ g 112 v0 47).bind fun z10 =>
          (rQ g 112 v0 73).bind fun z11 =>
          (aI g 0 z11 v3).bind fun z12 =>
          (rQ g 112 v0 78).bind fun z13 =>
          (rI g 112 v0 79).bind fun z14 =>
          (M_Y_same z10 (8 * z12) z13 0 z14 g).bind fun z15 =>
          if z15 = 0 then
            some (.inl (v3 + (-1)))
          else
            some (.inr v3)
        else
          some (.inl (v3 + (-1)))
      else
        some (.inr v3)
    else
      some (.inl (v3 + (-1)))
  else
    some (.inr v3)
set_option maxRecDepth 20000 in
theorem y_Y_endTag_7 {L : Nat} {xs : Nat → Int32} {Q : Option Value → ab_H → Prop} {v0 : Nat} {v1 : Int32} {v2 : Int32} {v3 : Int32} {g : g_S} {out : (Int32) ⊕ (Int32)} (e : b_Y_endTag_7 v0 v1 v2 v3 g = some out) (c : cL_Y_endTag_7 L xs Q v0 v1 v2 g out) : wp (ab_ext L xs) J_Y_endTag 7 [(0, .ref v0), (1, .int v1), (2, .int v2), (3, .int v3)] [] (hp g) Q := by
  unfold b_Y_endTag_7 at e
  refine wp_p (j := J_Y_endTag) 1 (pc' := 8) (lv' := [(0, .ref v0), (1, .int v1), (2, .int v2), (3, .int v3)]) (st' := [.int v3]) rfl ?_
  refine z_le e rfl (fun e => ?_) (fun e => ?_)
  · refine wp_p (j := J_Y_endTag) 1 (pc' := 12) (lv' := [(0, .ref v0), (1, .int v1), (2, .int v2), (3, .int v3)]) (st' := [.ref v0]) rfl ?_
    refine x_gQ e rfl rfl fd_12_46 rfl (fun z1 e => ?_)
    refine wp_p (j := J_Y_endTag) 1 (pc' := 16) (lv' := [(0, .ref v0), (1, .int v1), (2, .int v2), (3, .int v3)]) (st' := [.ref v0, .ref z1]) rfl ?_
    refine x_gQ e rfl rfl fd_12_73 rfl (fun z2 e => ?_)
    refine wp_p (j := J_Y_endTag) 1 (pc' := 20) (lv' := [(0, .ref v0), (1, .int v1), (2, .int v2), (3, .int v3)]) (st' := [.int v3, .ref z2, .ref z1]) rfl ?_
    refine x_aI e rfl rfl (fun z3 e => ?_)
    refine x_aI e rfl rfl (fun z4 e => ?_)
    refine wp_p (j := J_Y_endTag) 1 (pc' := 23) (lv' := [(0, .ref v0), (1, .int v1), (2, .int v2), (3, .int v3)]) (st' := [.int v2, .int z4]) rfl ?_
    refine x_ne e rfl (fun e => ?_) (fun e => ?_)
    · refine wp_p (j := J_Y_endTag) 2 (pc' := 29) (lv' := [(0, .ref v0), (1, .int v1), (2, .int v2), (3, .int v3)]) (st' := [.int 16, .int v2]) rfl ?_
      refine x_ne e rfl (fun e => ?_) (fun e => ?_)
      · refine wp_p (j := J_Y_endTag) 1 (pc' := 33) (lv' := [(0, .ref v0), (1, .int v1), (2, .int v2), (3, .int v3)]) (st' := [.ref v0]) rfl ?_
        refine x_gQ e rfl rfl fd_12_48 rfl (fun z5 e => ?_)
        refine wp_p (j := J_Y_endTag) 1 (pc' := 37) (lv' := [(0, .ref v0), (1, .int v1), (2, .int v2), (3, .int v3)]) (st' := [.ref v0, .ref z5]) rfl ?_
        refine x_gQ e rfl rfl fd_12_73 rfl (fun z6 e => ?_)
        refine wp_p (j := J_Y_endTag) 1 (pc' := 41) (lv' := [(0, .ref v0), (1, .int v1), (2, .int v2), (3, .int v3)]) (st' := [.int v3, .ref z6, .ref z5]) rfl ?_
        refine x_aI e rfl rfl (fun z7 e => ?_)
        refine x_aI e rfl rfl (fun z8 e => ?_)
        refine wp_p (j := J_Y_endTag) 1 (pc' := 44) (lv' := [(0, .ref v0), (1, .int v1), (2, .int v2), (3, .int v3)]) (st' := [.ref v0, .int z8]) rfl ?_
        refine x_gI e rfl rfl fd_12_79 rfl (fun z9 e => ?_)
        refine x_ne e rfl (fun e => ?_) (fun e => ?_)
        · refine wp_p (j := J_Y_endTag) 1 (pc' := 51) (lv' := [(0, .ref v0), (1, .int v1), (2, .int v2), (3, .int v3)]) (st' := [.ref v0]) rfl ?_
          refine x_gQ e rfl rfl fd_12_47 rfl (fun z10 e => ?_)
          refine wp_p (j := J_Y_endTag) 2 (pc' := 57) (lv' := [(0, .ref v0), (1, .int v1), (2, .int v2), (3, .int v3)]) (st' := [.ref v0, .int 8, .ref z10]) rfl ?_
          refine x_gQ e rfl rfl fd_12_73 rfl (fun z11 e => ?_)
          refine wp_p (j := J_Y_endTag) 1 (pc' := 61) (lv' := [(0, .ref v0), (1, .int v1), (2, .int v2), (3, .int v3)]) (st' := [.int v3, .ref z11, .int 8, .ref z10]) rfl ?_
          refine x_aI e rfl rfl (fun z12 e => ?_)
          refine wp_p (j := J_Y_endTag) 2 (pc' := 64) (lv' := [(0, .ref v0), (1, .int v1), (2, .int v2), (3, .int v3)]) (st' := [.ref v0, .int (8 * z12), .ref z10]) rfl ?_
          refine x_gQ e rfl rfl fd_12_78 rfl (fun z13 e => ?_)
          refine wp_p (j := J_Y_endTag) 2 (pc' := 69) (lv' := [(0, .ref v0), (1, .int v1), (2, .int v2), (3, .int v3)]) (st' := [.ref v0, .int 0, .ref z13, .int (8 * z12), .ref z10]) rfl ?_
          refine x_gI e rfl rfl fd_12_79 rfl (fun z14 e => ?_)
          refine x_cs1 (As := [.ref z10, .int (8 * z12), .ref z13, .int 0, .int z14]) (rest := []) Value.int e rfl rfl rfl rfl rfl (fun h => d_Y_same h ⟨rfl, rfl⟩) (fun z15 e => ?_)
          refine z_ne e rfl (fun e => ?_) (fun e => ?_)
          · refine wp_p (j := J_Y_endTag) 2 (pc' := 7) (lv' := [(3, .int (v3 + (-1))), (0, .ref v0), (1, .int v1), (2, .int v2)]) (st' := []) rfl ?_
            have e := Option.some.inj e; subst e; exact wp_lv (lv' := [(0, .ref v0), (1, .int v1), (2, .int v2), (3, .int (v3 + (-1)))]) rfl ⟨rfl, rfl, rfl, rfl, trivial⟩ c
          · have e := Option.some.inj e; subst e; exact wp_lv (lv' := [(0, .ref v0), (1, .int v1), (2, .int v2), (3, .int v3)]) rfl ⟨rfl, rfl, rfl, rfl, trivial⟩ c
        · refine wp_p (j := J_Y_endTag) 2 (pc' := 7) (lv' := [(3, .int (v3 + (-1))), (0, .ref v0), (1, .int v1), (2, .int v2)]) (st' := []) rfl ?_
          have e := Option.some.inj e; subst e; exact wp_lv (lv' := [(0, .ref v0), (1, .int v1), (2, .int v2), (3, .int (v3 + (-1)))]) rfl ⟨rfl, rfl, rfl, rfl, trivial⟩ c
      · have e := Option.some.inj e; subst e; exact wp_lv (lv' := [(0, .ref v0), (1, .int v1), (2, .int v2), (3, .int v3)]) rfl ⟨rfl, rfl, rfl, rfl, trivial⟩ c
    · refine wp_p (j := J_Y_endTag) 2 (pc' := 7) (lv' := [(3, .int (v3 + (-1))), (0, .ref v0), (1, .int v1), (2, .int v2)]) (st' := []) rfl ?_
      have e := Option.some.inj e; subst e; exact wp_lv (lv' := [(0, .ref v0), (1, .int v1), (2, .int v2), (3, .int (v3 + (-1)))]) rfl ⟨rfl, rfl, rfl, rfl, trivial⟩ c
  · have e := Option.some.inj e; subst e; exact wp_lv (lv' := [(0, .ref v0), (1, .int v1), (2, .int v2), (3, .int v3)]) rfl ⟨rfl, rfl, rfl, rfl, trivial⟩ c
noncomputable def L_Y_endTag_7 (v0 : Nat) (v1 : Int32) (v2 : Int32) (v3 : Int32) (g : g_S) : Option (Int32) := it (fun s : Int32 => b_Y_endTag_7 v0 v1 v2 s g) (v3)
theorem l_Y_endTag_7 {L : Nat} {xs : Nat → Int32} {Q : Option Value → ab_H → Prop} {v0 : Nat} {v1 : Int32} {v2 : Int32} {v3 : Int32} {g : g_S} {r : Int32} (e : L_Y_endTag_7 v0 v1 v2 v3 g = some r) (c : cL_Y_endTag_7 L xs Q v0 v1 v2 g (.inr r)) : wp (ab_ext L xs) J_Y_endTag 7 [(0, .ref v0), (1, .int v1), (2, .int v2), (3, .int v3)] [] (hp g) Q :=
  it_wp (P := fun s : Int32 => wp (ab_ext L xs) J_Y_endTag 7 [(0, .ref v0), (1, .int v1), (2, .int v2), (3, .int s)] [] (hp g) Q) (E := fun r => cL_Y_endTag_7 L xs Q v0 v1 v2 g (.inr r)) (fun s out e c => y_Y_endTag_7 e (by cases out <;> exact c)) e c
theorem L_Y_endTag_7_eq (v0 : Nat) (v1 : Int32) (v2 : Int32) (v3 : Int32) (g : g_S) : L_Y_endTag_7 v0 v1 v2 v3 g = itc (b_Y_endTag_7 v0 v1 v2 v3 g) (fun s => L_Y_endTag_7 v0 v1 v2 s g) := it_eq2 (fun s : Int32 => b_Y_endTag_7 v0 v1 v2 s g) (v3)
noncomputable def k_Y_endTag_95 (v0 : Nat) (v1 : Int32) (g : g_S) : Option g_S :=
  (vc g 112 v0 (M_Y_tellFault v0 3 v1 g)).bind fun g1 =>
  some g1
set_option maxRecDepth 20000 in
theorem x_Y_endTag_95 {L : Nat} {xs : Nat → Int32} {Q : Option Value → ab_H → Prop} {v0 : Nat} {v1 : Int32} {g : g_S} {out : g_S} (e : k_Y_endTag_95 v0 v1 g = some out) (c : Q none (hp out)) : wp (ab_ext L xs) J_Y_endTag 95 [(0, .ref v0), (1, .int v1)] [] (hp g) Q := by
  unfold k_Y_endTag_95 at e
  refine wp_p (j := J_Y_endTag) 3 (pc' := 98) (lv' := [(0, .ref v0), (1, .int v1)]) (st' := [.int v1, .int 3, .ref v0]) rfl ?_
  refine x_cv0 (As := [.int 3, .int v1]) (rest := []) e rfl rfl rfl rfl rfl rfl (fun h => d_Y_tellFault h ⟨rfl, rfl⟩) (fun g1 e => ?_)
  refine wp_p (j := J_Y_endTag) 1 (pc' := 116) (lv' := [(0, .ref v0), (1, .int v1)]) (st' := []) rfl ?_
  have e := Option.some.inj e; subst e; exact wp_vret rfl rfl c
noncomputable def k_Y_endTag_84 (v0 : Nat) (v1 : Int32) (v2 : Int32) (v3 : Int32) (g : g_S) : Option g_S :=
  if v3 = 0 then
    k_Y_endTag_95 v0 v1 g
  else
    (M_Y_isEmptyTag v2 g).bind fun z1 =>
    if z1 = 0 then
      (rQ g 112 v0 73).bind fun z2 =>
      (aI g 0 z2 v3).bind fun z3 =>
      (vc g 112 v0 (M_Y_closeTo v0 v3 z3 (-1) g)).bind fun g4 =>
      some g4
    else
      k_Y_endTag_95 v0 v1 g
set_option maxRecDepth 20000 in
theorem x_Y_endTag_84 {L : Nat} {xs : Nat → Int32} {Q : Option Value → ab_H → Prop} {v0 : Nat} {v1 : Int32} {v2 : Int32} {v3 : Int32} {g : g_S} {out : g_S} (e : k_Y_endTag_84 v0 v1 v2 v3 g = some out) (c : Q none (hp out)) : wp (ab_ext L xs) J_Y_endTag 84 [(0, .ref v0), (1, .int v1), (2, .int v2), (3, .int v3)] [] (hp g) Q := by
  unfold k_Y_endTag_84 at e
  refine wp_p (j := J_Y_endTag) 1 (pc' := 85) (lv' := [(0, .ref v0), (1, .int v1), (2, .int v2), (3, .int v3)]) (st' := [.int v3]) rfl ?_
  refine z_eq e rfl (fun e => ?_) (fun e => ?_)
  · exact wp_lv (lv' := [(0, .ref v0), (1, .int v1)]) rfl ⟨rfl, rfl, trivial⟩ (x_Y_endTag_95 e c)
  · refine wp_p (j := J_Y_endTag) 1 (pc' := 89) (lv' := [(0, .ref v0), (1, .int v1), (2, .int v2), (3, .int v3)]) (st' := [.int v2]) rfl ?_
    refine x_cs1 (As := [.int v2]) (rest := []) Value.int e rfl rfl rfl rfl rfl (fun h => d_Y_isEmptyTag h ⟨rfl, rfl⟩) (fun z1 e => ?_)
    refine z_eq e rfl (fun e => ?_) (fun e => ?_)
    · refine wp_p (j := J_Y_endTag) 3 (pc' := 107) (lv' := [(0, .ref v0), (1, .int v1), (2, .int v2), (3, .int v3)]) (st' := [.ref v0, .int v3, .ref v0]) rfl ?_
      refine x_gQ e rfl rfl fd_12_73 rfl (fun z2 e => ?_)
      refine wp_p (j := J_Y_endTag) 1 (pc' := 111) (lv' := [(0, .ref v0), (1, .int v1), (2, .int v2), (3, .int v3)]) (st' := [.int v3, .ref z2, .int v3, .ref v0]) rfl ?_
      refine x_aI e rfl rfl (fun z3 e => ?_)
      refine wp_p (j := J_Y_endTag) 1 (pc' := 113) (lv' := [(0, .ref v0), (1, .int v1), (2, .int v2), (3, .int v3)]) (st' := [.int (-1), .int z3, .int v3, .ref v0]) rfl ?_
      refine x_cv0 (As := [.int v3, .int z3, .int (-1)]) (rest := []) e rfl rfl rfl rfl rfl rfl (fun h => d_Y_closeTo h ⟨rfl, rfl⟩) (fun g4 e => ?_)
      have e := Option.some.inj e; subst e; exact wp_vret rfl rfl c
    · exact wp_lv (lv' := [(0, .ref v0), (1, .int v1)]) rfl ⟨rfl, rfl, trivial⟩ (x_Y_endTag_95 e c)
noncomputable def M_Y_endTag (v0 : Nat) (v1 : Int32) (v2 : Int32) (g : g_S) : Option g_S :=
  (rI g 112 v0 74).bind fun z1 =>
  (L_Y_endTag_7 v0 v1 v2 (z1 - 1) g).bind <| fun z4 =>
  k_Y_endTag_84 v0 v1 v2 z4 g
set_option maxRecDepth 20000 in
theorem d_Y_endTag {L : Nat} {xs : Nat → Int32} {Q : Option Value → ab_H → Prop} {v0 : Nat} {v1 : Int32} {v2 : Int32} {g : g_S} {out : g_S} (e : M_Y_endTag v0 v1 v2 g = some out) (c : Q none (hp out)) : mw (ab_ext L xs) J_Y_endTag [.ref v0, .int v1, .int v2] (hp g) Q := by
  unfold M_Y_endTag at e
  refine wp_p (j := J_Y_endTag) 1 (pc' := 1) (lv' := [(0, .ref v0), (1, .int v1), (2, .int v2)]) (st' := [.ref v0]) rfl ?_
  refine x_gI e rfl rfl fd_12_74 rfl (fun z1 e => ?_)
  refine wp_p (j := J_Y_endTag) 3 (pc' := 7) (lv' := [(3, .int (z1 - 1)), (0, .ref v0), (1, .int v1), (2, .int v2)]) (st' := []) rfl ?_
  obtain ⟨z4, h3, e⟩ := bd e
  refine wp_lv (lv' := [(0, .ref v0), (1, .int v1), (2, .int v2), (3, .int (z1 - 1))]) rfl ⟨rfl, rfl, rfl, rfl, trivial⟩ ?_
  refine l_Y_endTag_7 h3 ?_
  show wp (ab_ext L xs) J_Y_endTag 84 [(0, .ref v0), (1, .int v1), (2, .int v2), (3, .int z4)] [] (hp g) Q
  exact wp_lv (lv' := [(0, .ref v0), (1, .int v1), (2, .int v2), (3, .int z4)]) rfl ⟨rfl, rfl, rfl, rfl, trivial⟩ (x_Y_endTag_84 e c)
noncomputable def M_Y_isBlockTag (v0 : Int32) (g : g_S) : Option Int32 :=
  if 5 < v0 then
    if v0 = 11 then
      some 1
    else
      some 0
  else
    some 1
set_option maxRecDepth 20000 in
theorem d_Y_isBlockTag {L : Nat} {xs : Nat → Int32} {Q : Option Value → ab_H → Prop} {v0 : Int32} {g : g_S} {out : Int32} (e : M_Y_isBlockTag v0 g = some out) (c : Q (some (.int out)) (hp g)) : mw (ab_ext L xs) J_Y_isBlockTag [.int v0] (hp g) Q := by
  unfold M_Y_isBlockTag at e
  refine wp_p (j := J_Y_isBlockTag) 2 (pc' := 2) (lv' := [(0, .int v0)]) (st' := [.int 5, .int v0]) rfl ?_
  refine x_le e rfl (fun e => ?_) (fun e => ?_)
  · refine wp_p (j := J_Y_isBlockTag) 2 (pc' := 8) (lv' := [(0, .int v0)]) (st' := [.int 11, .int v0]) rfl ?_
    refine x_ne e rfl (fun e => ?_) (fun e => ?_)
    · refine wp_p (j := J_Y_isBlockTag) 2 (pc' := 16) (lv' := [(0, .int v0)]) (st' := [.int 1]) rfl ?_
      have e := Option.some.inj e; subst e; exact wp_iret (ty := .boolean) rfl rfl (by decide) c
    · refine wp_p (j := J_Y_isBlockTag) 1 (pc' := 16) (lv' := [(0, .int v0)]) (st' := [.int 0]) rfl ?_
      have e := Option.some.inj e; subst e; exact wp_iret (ty := .boolean) rfl rfl (by decide) c
  · refine wp_p (j := J_Y_isBlockTag) 2 (pc' := 16) (lv' := [(0, .int v0)]) (st' := [.int 1]) rfl ?_
    have e := Option.some.inj e; subst e; exact wp_iret (ty := .boolean) rfl rfl (by decide) c
def cL_Y_element_19 (L : Nat) (xs : Nat → Int32) (Q : Option Value → ab_H → Prop) (v0 : Nat) (v1 : Int32) (out : (Int32 × g_S) ⊕ (g_S)) : Prop := match out with
  | .inl s => wp (ab_ext L xs) J_Y_element 19 [(0, .ref v0), (1, .int v1), (3, .int s.1)] [] (hp s.2) Q
  | .inr s => wp (ab_ext L xs) J_Y_element 50 [] [] (hp s) Q
noncomputable def b_Y_element_19 (v0 : Nat) (v1 : Int32) (v3 : Int32) (g : g_S) : Option ((Int32 × g_S) ⊕ (g_S)) :=
  (rI g 112 v0 79).bind fun z1 =>
  if v3 < z1 then
    (rQ g 112 v0 47).bind fun z2 =>
    (rQ g 112 v0 78).bind fun z3 =>
    (aI g 1 z3 v3).bind fun z4 =>
    (sB g z2 ((8 * v1) + v3) z4).bind fun g5 =>
    some (.inl (v3 + 1, g5))
  else
    some (.inr g)
set_option maxRecDepth 20000 in
theorem y_Y_element_19 {L : Nat} {xs : Nat → Int32} {Q : Option Value → ab_H → Prop} {v0 : Nat} {v1 : Int32} {v3 : Int32} {g : g_S} {out : (Int32 × g_S) ⊕ (g_S)} (e : b_Y_element_19 v0 v1 v3 g = some out) (c : cL_Y_element_19 L xs Q v0 v1 out) : wp (ab_ext L xs) J_Y_element 19 [(0, .ref v0), (1, .int v1), (3, .int v3)] [] (hp g) Q := by
  unfold b_Y_element_19 at e
  refine wp_p (j := J_Y_element) 2 (pc' := 21) (lv' := [(0, .ref v0), (1, .int v1), (3, .int v3)]) (st' := [.ref v0, .int v3]) rfl ?_
  refine x_gI e rfl rfl fd_12_79 rfl (fun z1 e => ?_)
  refine x_ge e rfl (fun e => ?_) (fun e => ?_)
  · refine wp_p (j := J_Y_element) 1 (pc' := 28) (lv' := [(0, .ref v0), (1, .int v1), (3, .int v3)]) (st' := [.ref v0]) rfl ?_
    refine x_gQ e rfl rfl fd_12_47 rfl (fun z2 e => ?_)
    refine wp_p (j := J_Y_element) 6 (pc' := 38) (lv' := [(0, .ref v0), (1, .int v1), (3, .int v3)]) (st' := [.ref v0, .int ((8 * v1) + v3), .ref z2]) rfl ?_
    refine x_gQ e rfl rfl fd_12_78 rfl (fun z3 e => ?_)
    refine wp_p (j := J_Y_element) 1 (pc' := 42) (lv' := [(0, .ref v0), (1, .int v1), (3, .int v3)]) (st' := [.int v3, .ref z3, .int ((8 * v1) + v3), .ref z2]) rfl ?_
    refine x_aB e rfl (.inl rfl) rfl (fun z4 e => ?_)
    refine x_sB e rfl rfl (fun g5 e => ?_)
    refine wp_p (j := J_Y_element) 2 (pc' := 19) (lv' := [(3, .int (v3 + 1)), (0, .ref v0), (1, .int v1)]) (st' := []) rfl ?_
    have e := Option.some.inj e; subst e; exact wp_lv (lv' := [(0, .ref v0), (1, .int v1), (3, .int (v3 + 1))]) rfl ⟨rfl, rfl, rfl, trivial⟩ c
  · have e := Option.some.inj e; subst e; exact wp_lv (lv' := []) rfl trivial c
noncomputable def L_Y_element_19 (v0 : Nat) (v1 : Int32) (v3 : Int32) (g : g_S) : Option (g_S) := it (fun s : Int32 × g_S => b_Y_element_19 v0 v1 s.1 s.2) (v3, g)
theorem l_Y_element_19 {L : Nat} {xs : Nat → Int32} {Q : Option Value → ab_H → Prop} {v0 : Nat} {v1 : Int32} {v3 : Int32} {g : g_S} {r : g_S} (e : L_Y_element_19 v0 v1 v3 g = some r) (c : cL_Y_element_19 L xs Q v0 v1 (.inr r)) : wp (ab_ext L xs) J_Y_element 19 [(0, .ref v0), (1, .int v1), (3, .int v3)] [] (hp g) Q :=
  it_wp (P := fun s : Int32 × g_S => wp (ab_ext L xs) J_Y_element 19 [(0, .ref v0), (1, .int v1), (3, .int s.1)] [] (hp s.2) Q) (E := fun r => cL_Y_element_19 L xs Q v0 v1 (.inr r)) (fun s out e c => y_Y_element_19 e (by cases out <;> exact c)) e c
theorem L_Y_element_19_eq (v0 : Nat) (v1 : Int32) (v3 : Int32) (g : g_S) : L_Y_element_19 v0 v1 v3 g = itc (b_Y_element_19 v0 v1 v3 g) (fun s => L_Y_element_19 v0 v1 s.1 s.2) := it_eq2 (fun s : Int32 × g_S => b_Y_element_19 v0 v1 s.1 s.2) (v3, g)
noncomputable def M_Y_element (v0 : Nat) (v1 : Int32) (v2 : Int32) (g : g_S) : Option g_S :=
  (rQ g 112 v0 46).bind fun z1 =>
  (sI g z1 v1 v2).bind fun g2 =>
  (rQ g2 112 v0 48).bind fun z3 =>
  (rI g2 112 v0 79).bind fun z4 =>
  (sI g2 z3 v1 z4).bind fun g5 =>
  (L_Y_element_19 v0 v1 0 g5).bind <| fun g8 =>
  some g8
set_option maxRecDepth 20000 in
theorem d_Y_element {L : Nat} {xs : Nat → Int32} {Q : Option Value → ab_H → Prop} {v0 : Nat} {v1 : Int32} {v2 : Int32} {g : g_S} {out : g_S} (e : M_Y_element v0 v1 v2 g = some out) (c : Q none (hp out)) : mw (ab_ext L xs) J_Y_element [.ref v0, .int v1, .int v2] (hp g) Q := by
  unfold M_Y_element at e
  refine wp_p (j := J_Y_element) 1 (pc' := 1) (lv' := [(0, .ref v0), (1, .int v1), (2, .int v2)]) (st' := [.ref v0]) rfl ?_
  refine x_gQ e rfl rfl fd_12_46 rfl (fun z1 e => ?_)
  refine wp_p (j := J_Y_element) 2 (pc' := 6) (lv' := [(0, .ref v0), (1, .int v1), (2, .int v2)]) (st' := [.int v2, .int v1, .ref z1]) rfl ?_
  refine x_sI e rfl rfl (fun g2 e => ?_)
  refine wp_p (j := J_Y_element) 1 (pc' := 8) (lv' := [(0, .ref v0), (1, .int v1), (2, .int v2)]) (st' := [.ref v0]) rfl ?_
  refine x_gQ e rfl rfl fd_12_48 rfl (fun z3 e => ?_)
  refine wp_p (j := J_Y_element) 2 (pc' := 13) (lv' := [(0, .ref v0), (1, .int v1), (2, .int v2)]) (st' := [.ref v0, .int v1, .ref z3]) rfl ?_
  refine x_gI e rfl rfl fd_12_79 rfl (fun z4 e => ?_)
  refine x_sI e rfl rfl (fun g5 e => ?_)
  refine wp_p (j := J_Y_element) 2 (pc' := 19) (lv' := [(3, .int 0), (0, .ref v0), (1, .int v1), (2, .int v2)]) (st' := []) rfl ?_
  obtain ⟨g8, h7, e⟩ := bd e
  refine wp_lv (lv' := [(0, .ref v0), (1, .int v1), (3, .int 0)]) rfl ⟨rfl, rfl, rfl, trivial⟩ ?_
  refine l_Y_element_19 h7 ?_
  show wp (ab_ext L xs) J_Y_element 50 [] [] (hp g8) Q
  have e := Option.some.inj e; subst e; exact wp_vret rfl rfl c
def cL_Y_attributeOf_3 (L : Nat) (xs : Nat → Int32) (Q : Option Value → ab_H → Prop) (v0 : Nat) (v1 : Int32) (v2 : Int64) (g : g_S) (out : (Int32) ⊕ ((Int32) ⊕ (Unit))) : Prop := match out with
  | .inl s => wp (ab_ext L xs) J_Y_attributeOf 3 [(0, .ref v0), (1, .int v1), (2, .long v2), (4, .int s)] [] (hp g) Q
  | .inr (.inl s) => wp (ab_ext L xs) J_Y_attributeOf 65 [(5, .int s)] [] (hp g) Q
  | .inr (.inr s) => wp (ab_ext L xs) J_Y_attributeOf 74 [] [] (hp g) Q
noncomputable def b_Y_attributeOf_3 (v0 : Nat) (v1 : Int32) (v2 : Int64) (v4 : Int32) (g : g_S) : Option ((Int32) ⊕ ((Int32) ⊕ (Unit))) :=
  (rQ g 112 v0 56).bind fun z1 =>
  (aI g 0 z1 v1).bind fun z2 =>
  if v4 < z2 then
    (rQ g 112 v0 58).bind fun z3 =>
    (aI g 0 z3 ((4 * v1) + v4)).bind fun z4 =>
    (M_Y_lengthOf v2 g).bind fun z5 =>
    if z4 = z5 then
      (rQ g 112 v0 57).bind fun z6 =>
      (rQ g 112 v0 58).bind fun z7 =>
      (aI g 0 z7 ((4 * v1) + v4)).bind fun z8 =>
      (M_Y_isWord z6 (8 * ((4 * v1) + v4)) ((8 * ((4 * v1) + v4)) + z8) v2 g).bind fun z9 =>
      if z9 = 0 then
        some (.inl (v4 + 1))
      else
        some (.inr (.inl ((4 * v1) + v4)))
    else
      some (.inl (v4 + 1))
  else
    some (.inr (.inr ()))
set_option maxRecDepth 20000 in
theorem y_Y_attributeOf_3 {L : Nat} {xs : Nat → Int32} {Q : Option Value → ab_H → Prop} {v0 : Nat} {v1 : Int32} {v2 : Int64} {v4 : Int32} {g : g_S} {out : (Int32) ⊕ ((Int32) ⊕ (Unit))} (e : b_Y_attributeOf_3 v0 v1 v2 v4 g = some out) (c : cL_Y_attributeOf_3 L xs Q v0 v1 v2 g out) : wp (ab_ext L xs) J_Y_attributeOf 3 [(0, .ref v0), (1, .int v1), (2, .long v2), (4, .int v4)] [] (hp g) Q := by
  unfold b_Y_attributeOf_3 at e
  refine wp_p (j := J_Y_attributeOf) 2 (pc' := 6) (lv' := [(0, .ref v0), (1, .int v1), (2, .long v2), (4, .int v4)]) (st' := [.ref v0, .int v4]) rfl ?_
  refine x_gQ e rfl rfl fd_12_56 rfl (fun z1 e => ?_)
  refine wp_p (j := J_Y_attributeOf) 1 (pc' := 10) (lv' := [(0, .ref v0), (1, .int v1), (2, .long v2), (4, .int v4)]) (st' := [.int v1, .ref z1, .int v4]) rfl ?_
  refine x_aI e rfl rfl (fun z2 e => ?_)
  refine x_ge e rfl (fun e => ?_) (fun e => ?_)
  · refine wp_p (j := J_Y_attributeOf) 7 (pc' := 23) (lv' := [(5, .int ((4 * v1) + v4)), (0, .ref v0), (1, .int v1), (2, .long v2), (4, .int v4)]) (st' := [.ref v0]) rfl ?_
    refine x_gQ e rfl rfl fd_12_58 rfl (fun z3 e => ?_)
    refine wp_p (j := J_Y_attributeOf) 1 (pc' := 28) (lv' := [(5, .int ((4 * v1) + v4)), (0, .ref v0), (1, .int v1), (2, .long v2), (4, .int v4)]) (st' := [.int ((4 * v1) + v4), .ref z3]) rfl ?_
    refine x_aI e rfl rfl (fun z4 e => ?_)
    refine wp_p (j := J_Y_attributeOf) 1 (pc' := 30) (lv' := [(5, .int ((4 * v1) + v4)), (0, .ref v0), (1, .int v1), (2, .long v2), (4, .int v4)]) (st' := [.long v2, .int z4]) rfl ?_
    refine x_cs1 (As := [.long v2]) (rest := [.int z4]) Value.int e rfl rfl rfl rfl rfl (fun h => d_Y_lengthOf h ⟨rfl, rfl⟩) (fun z5 e => ?_)
    refine x_ne e rfl (fun e => ?_) (fun e => ?_)
    · refine wp_p (j := J_Y_attributeOf) 1 (pc' := 37) (lv' := [(5, .int ((4 * v1) + v4)), (0, .ref v0), (1, .int v1), (2, .long v2), (4, .int v4)]) (st' := [.ref v0]) rfl ?_
      refine x_gQ e rfl rfl fd_12_57 rfl (fun z6 e => ?_)
      refine wp_p (j := J_Y_attributeOf) 7 (pc' := 51) (lv' := [(5, .int ((4 * v1) + v4)), (0, .ref v0), (1, .int v1), (2, .long v2), (4, .int v4)]) (st' := [.ref v0, .int (8 * ((4 * v1) + v4)), .int (8 * ((4 * v1) + v4)), .ref z6]) rfl ?_
      refine x_gQ e rfl rfl fd_12_58 rfl (fun z7 e => ?_)
      refine wp_p (j := J_Y_attributeOf) 1 (pc' := 56) (lv' := [(5, .int ((4 * v1) + v4)), (0, .ref v0), (1, .int v1), (2, .long v2), (4, .int v4)]) (st' := [.int ((4 * v1) + v4), .ref z7, .int (8 * ((4 * v1) + v4)), .int (8 * ((4 * v1) + v4)), .ref z6]) rfl ?_
      refine x_aI e rfl rfl (fun z8 e => ?_)
      refine wp_p (j := J_Y_attributeOf) 2 (pc' := 59) (lv' := [(5, .int ((4 * v1) + v4)), (0, .ref v0), (1, .int v1), (2, .long v2), (4, .int v4)]) (st' := [.long v2, .int ((8 * ((4 * v1) + v4)) + z8), .int (8 * ((4 * v1) + v4)), .ref z6]) rfl ?_
      refine x_cs1 (As := [.ref z6, .int (8 * ((4 * v1) + v4)), .int ((8 * ((4 * v1) + v4)) + z8), .long v2]) (rest := []) Value.int e rfl rfl rfl rfl rfl (fun h => d_Y_isWord h ⟨rfl, rfl⟩) (fun z9 e => ?_)
      refine z_eq e rfl (fun e => ?_) (fun e => ?_)
      · refine wp_p (j := J_Y_attributeOf) 2 (pc' := 3) (lv' := [(4, .int (v4 + 1)), (5, .int ((4 * v1) + v4)), (0, .ref v0), (1, .int v1), (2, .long v2)]) (st' := []) rfl ?_
        have e := Option.some.inj e; subst e; exact wp_lv (lv' := [(0, .ref v0), (1, .int v1), (2, .long v2), (4, .int (v4 + 1))]) rfl ⟨rfl, rfl, rfl, rfl, trivial⟩ c
      · have e := Option.some.inj e; subst e; exact wp_lv (lv' := [(5, .int ((4 * v1) + v4))]) rfl ⟨rfl, trivial⟩ c
    · refine wp_p (j := J_Y_attributeOf) 2 (pc' := 3) (lv' := [(4, .int (v4 + 1)), (5, .int ((4 * v1) + v4)), (0, .ref v0), (1, .int v1), (2, .long v2)]) (st' := []) rfl ?_
      have e := Option.some.inj e; subst e; exact wp_lv (lv' := [(0, .ref v0), (1, .int v1), (2, .long v2), (4, .int (v4 + 1))]) rfl ⟨rfl, rfl, rfl, rfl, trivial⟩ c
  · have e := Option.some.inj e; subst e; exact wp_lv (lv' := []) rfl trivial c
noncomputable def L_Y_attributeOf_3 (v0 : Nat) (v1 : Int32) (v2 : Int64) (v4 : Int32) (g : g_S) : Option ((Int32) ⊕ (Unit)) := it (fun s : Int32 => b_Y_attributeOf_3 v0 v1 v2 s g) (v4)
theorem l_Y_attributeOf_3 {L : Nat} {xs : Nat → Int32} {Q : Option Value → ab_H → Prop} {v0 : Nat} {v1 : Int32} {v2 : Int64} {v4 : Int32} {g : g_S} {r : (Int32) ⊕ (Unit)} (e : L_Y_attributeOf_3 v0 v1 v2 v4 g = some r) (c : cL_Y_attributeOf_3 L xs Q v0 v1 v2 g (.inr r)) : wp (ab_ext L xs) J_Y_attributeOf 3 [(0, .ref v0), (1, .int v1), (2, .long v2), (4, .int v4)] [] (hp g) Q :=
  it_wp (P := fun s : Int32 => wp (ab_ext L xs) J_Y_attributeOf 3 [(0, .ref v0), (1, .int v1), (2, .long v2), (4, .int s)] [] (hp g) Q) (E := fun r => cL_Y_attributeOf_3 L xs Q v0 v1 v2 g (.inr r)) (fun s out e c => y_Y_attributeOf_3 e (by cases out <;> exact c)) e c
theorem L_Y_attributeOf_3_eq (v0 : Nat) (v1 : Int32) (v2 : Int64) (v4 : Int32) (g : g_S) : L_Y_attributeOf_3 v0 v1 v2 v4 g = itc (b_Y_attributeOf_3 v0 v1 v2 v4 g) (fun s => L_Y_attributeOf_3 v0 v1 v2 s g) := it_eq2 (fun s : Int32 => b_Y_attributeOf_3 v0 v1 v2 s g) (v4)
noncomputable def M_Y_attributeOf (v0 : Nat) (v1 : Int32) (v2 : Int64) (g : g_S) : Option Int32 :=
  (L_Y_attributeOf_3 v0 v1 v2 0 g).bind <|
    us (fun z3 =>
    some z3)
    (fun _ =>
    some (-1))
set_option maxRecDepth 20000 in
theorem d_Y_attributeOf {L : Nat} {xs : Nat → Int32} {Q : Option Value → ab_H → Prop} {v0 : Nat} {v1 : Int32} {v2 : Int64} {g : g_S} {out : Int32} (e : M_Y_attributeOf v0 v1 v2 g = some out) (c : Q (some (.int out)) (hp g)) : mw (ab_ext L xs) J_Y_attributeOf [.ref v0, .int v1, .long v2] (hp g) Q := by
  unfold M_Y_attributeOf at e
  refine wp_p (j := J_Y_attributeOf) 2 (pc' := 3) (lv' := [(4, .int 0), (0, .ref v0), (1, .int v1), (2, .long v2)]) (st' := []) rfl ?_
  obtain ⟨s1, h2, e⟩ := bd e
  refine wp_lv (lv' := [(0, .ref v0), (1, .int v1), (2, .long v2), (4, .int 0)]) rfl ⟨rfl, rfl, rfl, rfl, trivial⟩ ?_
  refine l_Y_attributeOf_3 h2 ?_
  rcases s1 with z3 | _
  · replace e := (us_l e)
    show wp (ab_ext L xs) J_Y_attributeOf 65 [(5, .int z3)] [] (hp g) Q
    refine wp_p (j := J_Y_attributeOf) 1 (pc' := 67) (lv' := [(5, .int z3)]) (st' := [.int z3]) rfl ?_
    have e := Option.some.inj e; subst e; exact wp_iret (ty := .int) rfl rfl rfl c
  · replace e := (us_r e)
    show wp (ab_ext L xs) J_Y_attributeOf 74 [] [] (hp g) Q
    refine wp_p (j := J_Y_attributeOf) 1 (pc' := 75) (lv' := []) (st' := [.int (-1)]) rfl ?_
    have e := Option.some.inj e; subst e; exact wp_iret (ty := .int) rfl rfl rfl c
noncomputable def M_Y_isCheck (v0 : Nat) (v1 : Int32) (g : g_S) : Option Int32 :=
  (vc g 112 v0 (M_Y_attributeOf v0 v1 181044 g)).bind fun z1 =>
  (rQ g 112 v0 46).bind fun z2 =>
  (aI g 0 z2 v1).bind fun z3 =>
  if z3 = 13 then
    if z1 = (-1) then
      some 0
    else
      (rQ g 112 v0 60).bind fun z4 =>
      (aI g 0 z4 z1).bind fun z5 =>
      if z5 = 5 then
        (rQ g 112 v0 59).bind fun z6 =>
        (M_Y_isWord z6 (60 * z1) ((60 * z1) + 5) 11638019 g).bind fun z7 =>
        if z7 = 0 then
          some 0
        else
          some 1
      else
        some 0
  else
    some 0
set_option maxRecDepth 20000 in
theorem d_Y_isCheck {L : Nat} {xs : Nat → Int32} {Q : Option Value → ab_H → Prop} {v0 : Nat} {v1 : Int32} {g : g_S} {out : Int32} (e : M_Y_isCheck v0 v1 g = some out) (c : Q (some (.int out)) (hp g)) : mw (ab_ext L xs) J_Y_isCheck [.ref v0, .int v1] (hp g) Q := by
  unfold M_Y_isCheck at e
  refine wp_p (j := J_Y_isCheck) 2 (pc' := 2) (lv' := [(0, .ref v0), (1, .int v1)]) (st' := [.int v1, .ref v0]) rfl ?_
  refine x_l2 (xl := 181044) rfl rfl rfl ?_
  refine x_cv1 (As := [.int v1, .long 181044]) (rest := []) Value.int e rfl rfl rfl rfl rfl rfl (fun h => d_Y_attributeOf h ⟨rfl, rfl⟩) (fun z1 e => ?_)
  refine wp_p (j := J_Y_isCheck) 2 (pc' := 10) (lv' := [(2, .int z1), (0, .ref v0), (1, .int v1)]) (st' := [.ref v0]) rfl ?_
  refine x_gQ e rfl rfl fd_12_46 rfl (fun z2 e => ?_)
  refine wp_p (j := J_Y_isCheck) 1 (pc' := 14) (lv' := [(2, .int z1), (0, .ref v0), (1, .int v1)]) (st' := [.int v1, .ref z2]) rfl ?_
  refine x_aI e rfl rfl (fun z3 e => ?_)
  refine wp_p (j := J_Y_isCheck) 1 (pc' := 17) (lv' := [(2, .int z1), (0, .ref v0), (1, .int v1)]) (st' := [.int 13, .int z3]) rfl ?_
  refine x_ne e rfl (fun e => ?_) (fun e => ?_)
  · refine wp_p (j := J_Y_isCheck) 2 (pc' := 22) (lv' := [(2, .int z1), (0, .ref v0), (1, .int v1)]) (st' := [.int (-1), .int z1]) rfl ?_
    refine x_eq e rfl (fun e => ?_) (fun e => ?_)
    · refine wp_p (j := J_Y_isCheck) 1 (pc' := 63) (lv' := [(2, .int z1), (0, .ref v0), (1, .int v1)]) (st' := [.int 0]) rfl ?_
      have e := Option.some.inj e; subst e; exact wp_iret (ty := .boolean) rfl rfl (by decide) c
    · refine wp_p (j := J_Y_isCheck) 1 (pc' := 26) (lv' := [(2, .int z1), (0, .ref v0), (1, .int v1)]) (st' := [.ref v0]) rfl ?_
      refine x_gQ e rfl rfl fd_12_60 rfl (fun z4 e => ?_)
      refine wp_p (j := J_Y_isCheck) 1 (pc' := 30) (lv' := [(2, .int z1), (0, .ref v0), (1, .int v1)]) (st' := [.int z1, .ref z4]) rfl ?_
      refine x_aI e rfl rfl (fun z5 e => ?_)
      refine wp_p (j := J_Y_isCheck) 1 (pc' := 32) (lv' := [(2, .int z1), (0, .ref v0), (1, .int v1)]) (st' := [.int 5, .int z5]) rfl ?_
      refine x_ne e rfl (fun e => ?_) (fun e => ?_)
      · refine wp_p (j := J_Y_isCheck) 1 (pc' := 36) (lv' := [(2, .int z1), (0, .ref v0), (1, .int v1)]) (st' := [.ref v0]) rfl ?_
        refine x_gQ e rfl rfl fd_12_59 rfl (fun z6 e => ?_)
        refine wp_p (j := J_Y_isCheck) 8 (pc' := 49) (lv' := [(2, .int z1), (0, .ref v0), (1, .int v1)]) (st' := [.int ((60 * z1) + 5), .int (60 * z1), .ref z6]) rfl ?_
        refine x_l2 (xl := 11638019) rfl rfl rfl ?_
        refine x_cs1 (As := [.ref z6, .int (60 * z1), .int ((60 * z1) + 5), .long 11638019]) (rest := []) Value.int e rfl rfl rfl rfl rfl (fun h => d_Y_isWord h ⟨rfl, rfl⟩) (fun z7 e => ?_)
        refine z_eq e rfl (fun e => ?_) (fun e => ?_)
        · refine wp_p (j := J_Y_isCheck) 1 (pc' := 63) (lv' := [(2, .int z1), (0, .ref v0), (1, .int v1)]) (st' := [.int 0]) rfl ?_
          have e := Option.some.inj e; subst e; exact wp_iret (ty := .boolean) rfl rfl (by decide) c
        · refine wp_p (j := J_Y_isCheck) 2 (pc' := 63) (lv' := [(2, .int z1), (0, .ref v0), (1, .int v1)]) (st' := [.int 1]) rfl ?_
          have e := Option.some.inj e; subst e; exact wp_iret (ty := .boolean) rfl rfl (by decide) c
      · refine wp_p (j := J_Y_isCheck) 1 (pc' := 63) (lv' := [(2, .int z1), (0, .ref v0), (1, .int v1)]) (st' := [.int 0]) rfl ?_
        have e := Option.some.inj e; subst e; exact wp_iret (ty := .boolean) rfl rfl (by decide) c
  · refine wp_p (j := J_Y_isCheck) 1 (pc' := 63) (lv' := [(2, .int z1), (0, .ref v0), (1, .int v1)]) (st' := [.int 0]) rfl ?_
    have e := Option.some.inj e; subst e; exact wp_iret (ty := .boolean) rfl rfl (by decide) c
def cL_Y_settleInput_49 (L : Nat) (xs : Nat → Int32) (Q : Option Value → ab_H → Prop) (v0 : Nat) (v1 : Int32) (v2 : Int32) (out : (Int32 × g_S) ⊕ (g_S)) : Prop := match out with
  | .inl s => wp (ab_ext L xs) J_Y_settleInput 49 [(0, .ref v0), (1, .int v1), (2, .int v2), (3, .int s.1)] [] (hp s.2) Q
  | .inr s => wp (ab_ext L xs) J_Y_settleInput 87 [(0, .ref v0), (1, .int v1)] [] (hp s) Q
noncomputable def b_Y_settleInput_49 (v0 : Nat) (v1 : Int32) (v2 : Int32) (v3 : Int32) (g : g_S) : Option ((Int32 × g_S) ⊕ (g_S)) :=
  (rQ g 112 v0 65).bind fun z1 =>
  (aI g 0 z1 v1).bind fun z2 =>
  if v3 < z2 then
    (rQ g 112 v0 64).bind fun z3 =>
    (rQ g 112 v0 59).bind fun z4 =>
    (aI g 1 z4 ((60 * v2) + v3)).bind fun z5 =>
    (sB g z3 ((24 * v1) + v3) z5).bind fun g6 =>
    some (.inl (v3 + 1, g6))
  else
    some (.inr g)
set_option maxRecDepth 20000 in
theorem y_Y_settleInput_49 {L : Nat} {xs : Nat → Int32} {Q : Option Value → ab_H → Prop} {v0 : Nat} {v1 : Int32} {v2 : Int32} {v3 : Int32} {g : g_S} {out : (Int32 × g_S) ⊕ (g_S)} (e : b_Y_settleInput_49 v0 v1 v2 v3 g = some out) (c : cL_Y_settleInput_49 L xs Q v0 v1 v2 out) : wp (ab_ext L xs) J_Y_settleInput 49 [(0, .ref v0), (1, .int v1), (2, .int v2), (3, .int v3)] [] (hp g) Q := by
  unfold b_Y_settleInput_49 at e
  refine wp_p (j := J_Y_settleInput) 2 (pc' := 51) (lv' := [(0, .ref v0), (1, .int v1), (2, .int v2), (3, .int v3)]) (st' := [.ref v0, .int v3]) rfl ?_
  refine x_gQ e rfl rfl fd_12_65 rfl (fun z1 e => ?_)
  refine wp_p (j := J_Y_settleInput) 1 (pc' := 55) (lv' := [(0, .ref v0), (1, .int v1), (2, .int v2), (3, .int v3)]) (st' := [.int v1, .ref z1, .int v3]) rfl ?_
  refine x_aI e rfl rfl (fun z2 e => ?_)
  refine x_ge e rfl (fun e => ?_) (fun e => ?_)
  · refine wp_p (j := J_Y_settleInput) 1 (pc' := 60) (lv' := [(0, .ref v0), (1, .int v1), (2, .int v2), (3, .int v3)]) (st' := [.ref v0]) rfl ?_
    refine x_gQ e rfl rfl fd_12_64 rfl (fun z3 e => ?_)
    refine wp_p (j := J_Y_settleInput) 6 (pc' := 70) (lv' := [(0, .ref v0), (1, .int v1), (2, .int v2), (3, .int v3)]) (st' := [.ref v0, .int ((24 * v1) + v3), .ref z3]) rfl ?_
    refine x_gQ e rfl rfl fd_12_59 rfl (fun z4 e => ?_)
    refine wp_p (j := J_Y_settleInput) 5 (pc' := 79) (lv' := [(0, .ref v0), (1, .int v1), (2, .int v2), (3, .int v3)]) (st' := [.int ((60 * v2) + v3), .ref z4, .int ((24 * v1) + v3), .ref z3]) rfl ?_
    refine x_aB e rfl (.inl rfl) rfl (fun z5 e => ?_)
    refine x_sB e rfl rfl (fun g6 e => ?_)
    refine wp_p (j := J_Y_settleInput) 2 (pc' := 49) (lv' := [(3, .int (v3 + 1)), (0, .ref v0), (1, .int v1), (2, .int v2)]) (st' := []) rfl ?_
    have e := Option.some.inj e; subst e; exact wp_lv (lv' := [(0, .ref v0), (1, .int v1), (2, .int v2), (3, .int (v3 + 1))]) rfl ⟨rfl, rfl, rfl, rfl, trivial⟩ c
  · have e := Option.some.inj e; subst e; exact wp_lv (lv' := [(0, .ref v0), (1, .int v1)]) rfl ⟨rfl, rfl, trivial⟩ c
noncomputable def L_Y_settleInput_49 (v0 : Nat) (v1 : Int32) (v2 : Int32) (v3 : Int32) (g : g_S) : Option (g_S) := it (fun s : Int32 × g_S => b_Y_settleInput_49 v0 v1 v2 s.1 s.2) (v3, g)
theorem l_Y_settleInput_49 {L : Nat} {xs : Nat → Int32} {Q : Option Value → ab_H → Prop} {v0 : Nat} {v1 : Int32} {v2 : Int32} {v3 : Int32} {g : g_S} {r : g_S} (e : L_Y_settleInput_49 v0 v1 v2 v3 g = some r) (c : cL_Y_settleInput_49 L xs Q v0 v1 v2 (.inr r)) : wp (ab_ext L xs) J_Y_settleInput 49 [(0, .ref v0), (1, .int v1), (2, .int v2), (3, .int v3)] [] (hp g) Q :=
  it_wp (P := fun s : Int32 × g_S => wp (ab_ext L xs) J_Y_settleInput 49 [(0, .ref v0), (1, .int v1), (2, .int v2), (3, .int s.1)] [] (hp s.2) Q) (E := fun r => cL_Y_settleInput_49 L xs Q v0 v1 v2 (.inr r)) (fun s out e c => y_Y_settleInput_49 e (by cases out <;> exact c)) e c
theorem L_Y_settleInput_49_eq (v0 : Nat) (v1 : Int32) (v2 : Int32) (v3 : Int32) (g : g_S) : L_Y_settleInput_49 v0 v1 v2 v3 g = itc (b_Y_settleInput_49 v0 v1 v2 v3 g) (fun s => L_Y_settleInput_49 v0 v1 v2 s.1 s.2) := it_eq2 (fun s : Int32 × g_S => b_Y_settleInput_49 v0 v1 v2 s.1 s.2) (v3, g)
noncomputable def k_Y_settleInput_117 (w0 : Int32) (w1 : Int32) (w2 : Nat) (g : g_S) : Option g_S :=
  (sZ g w2 w1 w0).bind fun g1 =>
  some g1
set_option maxRecDepth 20000 in
theorem x_Y_settleInput_117 {L : Nat} {xs : Nat → Int32} {Q : Option Value → ab_H → Prop} {w0 : Int32} {w1 : Int32} {w2 : Nat} {g : g_S} {out : g_S} (e : k_Y_settleInput_117 w0 w1 w2 g = some out) (c : Q none (hp out)) : wp (ab_ext L xs) J_Y_settleInput 117 [] [.int w0, .int w1, .ref w2] (hp g) Q := by
  unfold k_Y_settleInput_117 at e
  refine x_sZ e rfl rfl (fun g1 e => ?_)
  have e := Option.some.inj e; subst e; exact wp_vret rfl rfl c
noncomputable def k_Y_settleInput_116 (w0 : Int32) (w1 : Nat) (g : g_S) : Option g_S :=
  k_Y_settleInput_117 0 w0 w1 g
set_option maxRecDepth 20000 in
theorem x_Y_settleInput_116 {L : Nat} {xs : Nat → Int32} {Q : Option Value → ab_H → Prop} {w0 : Int32} {w1 : Nat} {g : g_S} {out : g_S} (e : k_Y_settleInput_116 w0 w1 g = some out) (c : Q none (hp out)) : wp (ab_ext L xs) J_Y_settleInput 116 [] [.int w0, .ref w1] (hp g) Q := by
  unfold k_Y_settleInput_116 at e
  refine wp_p (j := J_Y_settleInput) 1 (pc' := 117) (lv' := []) (st' := [.int 0, .int w0, .ref w1]) rfl ?_
  exact wp_lv (lv' := []) rfl trivial (x_Y_settleInput_117 e c)
noncomputable def k_Y_settleInput_46 (v0 : Nat) (v1 : Int32) (v2 : Int32) (w0 : Int32) (w1 : Int32) (w2 : Nat) (g : g_S) : Option g_S :=
  (sI g w2 w1 w0).bind fun g1 =>
  (L_Y_settleInput_49 v0 v1 v2 0 g1).bind <| fun g4 =>
  (rQ g4 112 v0 66).bind fun z5 =>
  (vc g4 112 v0 (M_Y_isCheck v0 v1 g4)).bind fun z6 =>
  if z6 = 0 then
    k_Y_settleInput_116 v1 z5 g4
  else
    (vc g4 112 v0 (M_Y_attributeOf v0 v1 4474377475 g4)).bind fun z7 =>
    if z7 = (-1) then
      k_Y_settleInput_116 v1 z5 g4
    else
      k_Y_settleInput_117 1 v1 z5 g4
set_option maxRecDepth 20000 in
theorem x_Y_settleInput_46 {L : Nat} {xs : Nat → Int32} {Q : Option Value → ab_H → Prop} {v0 : Nat} {v1 : Int32} {v2 : Int32} {w0 : Int32} {w1 : Int32} {w2 : Nat} {g : g_S} {out : g_S} (e : k_Y_settleInput_46 v0 v1 v2 w0 w1 w2 g = some out) (c : Q none (hp out)) : wp (ab_ext L xs) J_Y_settleInput 46 [(0, .ref v0), (1, .int v1), (2, .int v2)] [.int w0, .int w1, .ref w2] (hp g) Q := by
  unfold k_Y_settleInput_46 at e
  refine x_sI e rfl rfl (fun g1 e => ?_)
  refine wp_p (j := J_Y_settleInput) 2 (pc' := 49) (lv' := [(3, .int 0), (0, .ref v0), (1, .int v1), (2, .int v2)]) (st' := []) rfl ?_
  obtain ⟨g4, h3, e⟩ := bd e
  refine wp_lv (lv' := [(0, .ref v0), (1, .int v1), (2, .int v2), (3, .int 0)]) rfl ⟨rfl, rfl, rfl, rfl, trivial⟩ ?_
  refine l_Y_settleInput_49 h3 ?_
  show wp (ab_ext L xs) J_Y_settleInput 87 [(0, .ref v0), (1, .int v1)] [] (hp g4) Q
  refine wp_p (j := J_Y_settleInput) 1 (pc' := 88) (lv' := [(0, .ref v0), (1, .int v1)]) (st' := [.ref v0]) rfl ?_
  refine x_gQ e rfl rfl fd_12_66 rfl (fun z5 e => ?_)
  refine wp_p (j := J_Y_settleInput) 3 (pc' := 94) (lv' := [(0, .ref v0), (1, .int v1)]) (st' := [.int v1, .ref v0, .int v1, .ref z5]) rfl ?_
  refine x_cv1 (As := [.int v1]) (rest := [.int v1, .ref z5]) Value.int e rfl rfl rfl rfl rfl rfl (fun h => d_Y_isCheck h ⟨rfl, rfl⟩) (fun z6 e => ?_)
  refine z_eq e rfl (fun e => ?_) (fun e => ?_)
  · exact wp_lv (lv' := []) rfl trivial (x_Y_settleInput_116 e c)
  · refine wp_p (j := J_Y_settleInput) 2 (pc' := 102) (lv' := [(0, .ref v0), (1, .int v1)]) (st' := [.int v1, .ref v0, .int v1, .ref z5]) rfl ?_
    refine x_l2 (xl := 4474377475) rfl rfl rfl ?_
    refine x_cv1 (As := [.int v1, .long 4474377475]) (rest := [.int v1, .ref z5]) Value.int e rfl rfl rfl rfl rfl rfl (fun h => d_Y_attributeOf h ⟨rfl, rfl⟩) (fun z7 e => ?_)
    refine wp_p (j := J_Y_settleInput) 1 (pc' := 109) (lv' := [(0, .ref v0), (1, .int v1)]) (st' := [.int (-1), .int z7, .int v1, .ref z5]) rfl ?_
    refine x_eq e rfl (fun e => ?_) (fun e => ?_)
    · exact wp_lv (lv' := []) rfl trivial (x_Y_settleInput_116 e c)
    · refine wp_p (j := J_Y_settleInput) 2 (pc' := 117) (lv' := [(0, .ref v0), (1, .int v1)]) (st' := [.int 1, .int v1, .ref z5]) rfl ?_
      exact wp_lv (lv' := []) rfl trivial (x_Y_settleInput_117 e c)
noncomputable def M_Y_settleInput (v0 : Nat) (v1 : Int32) (g : g_S) : Option g_S :=
  (rQ g 112 v0 46).bind fun z1 =>
  (aI g 0 z1 v1).bind fun z2 =>
  if z2 = 13 then
    (vc g 112 v0 (M_Y_attributeOf v0 v1 5943350 g)).bind fun z3 =>
    (rQ g 112 v0 65).bind fun z4 =>
    if z3 = (-1) then
      k_Y_settleInput_46 v0 v1 z3 0 v1 z4 g
    else
      (rQ g 112 v0 60).bind fun z5 =>
      (aI g 0 z5 z3).bind fun z6 =>
      k_Y_settleInput_46 v0 v1 z3 (mn 24 z6) v1 z4 g
  else
    some g
set_option maxRecDepth 20000 in
theorem d_Y_settleInput {L : Nat} {xs : Nat → Int32} {Q : Option Value → ab_H → Prop} {v0 : Nat} {v1 : Int32} {g : g_S} {out : g_S} (e : M_Y_settleInput v0 v1 g = some out) (c : Q none (hp out)) : mw (ab_ext L xs) J_Y_settleInput [.ref v0, .int v1] (hp g) Q := by
  unfold M_Y_settleInput at e
  refine wp_p (j := J_Y_settleInput) 1 (pc' := 1) (lv' := [(0, .ref v0), (1, .int v1)]) (st' := [.ref v0]) rfl ?_
  refine x_gQ e rfl rfl fd_12_46 rfl (fun z1 e => ?_)
  refine wp_p (j := J_Y_settleInput) 1 (pc' := 5) (lv' := [(0, .ref v0), (1, .int v1)]) (st' := [.int v1, .ref z1]) rfl ?_
  refine x_aI e rfl rfl (fun z2 e => ?_)
  refine wp_p (j := J_Y_settleInput) 1 (pc' := 8) (lv' := [(0, .ref v0), (1, .int v1)]) (st' := [.int 13, .int z2]) rfl ?_
  refine x_eq e rfl (fun e => ?_) (fun e => ?_)
  · refine wp_p (j := J_Y_settleInput) 2 (pc' := 14) (lv' := [(0, .ref v0), (1, .int v1)]) (st' := [.int v1, .ref v0]) rfl ?_
    refine x_l2 (xl := 5943350) rfl rfl rfl ?_
    refine x_cv1 (As := [.int v1, .long 5943350]) (rest := []) Value.int e rfl rfl rfl rfl rfl rfl (fun h => d_Y_attributeOf h ⟨rfl, rfl⟩) (fun z3 e => ?_)
    refine wp_p (j := J_Y_settleInput) 2 (pc' := 22) (lv' := [(2, .int z3), (0, .ref v0), (1, .int v1)]) (st' := [.ref v0]) rfl ?_
    refine x_gQ e rfl rfl fd_12_65 rfl (fun z4 e => ?_)
    refine wp_p (j := J_Y_settleInput) 3 (pc' := 28) (lv' := [(2, .int z3), (0, .ref v0), (1, .int v1)]) (st' := [.int (-1), .int z3, .int v1, .ref z4]) rfl ?_
    refine x_ne e rfl (fun e => ?_) (fun e => ?_)
    · refine wp_p (j := J_Y_settleInput) 2 (pc' := 46) (lv' := [(2, .int z3), (0, .ref v0), (1, .int v1)]) (st' := [.int 0, .int v1, .ref z4]) rfl ?_
      exact wp_lv (lv' := [(0, .ref v0), (1, .int v1), (2, .int z3)]) rfl ⟨rfl, rfl, rfl, trivial⟩ (x_Y_settleInput_46 e c)
    · refine wp_p (j := J_Y_settleInput) 2 (pc' := 38) (lv' := [(2, .int z3), (0, .ref v0), (1, .int v1)]) (st' := [.ref v0, .int 24, .int v1, .ref z4]) rfl ?_
      refine x_gQ e rfl rfl fd_12_60 rfl (fun z5 e => ?_)
      refine wp_p (j := J_Y_settleInput) 1 (pc' := 42) (lv' := [(2, .int z3), (0, .ref v0), (1, .int v1)]) (st' := [.int z3, .ref z5, .int 24, .int v1, .ref z4]) rfl ?_
      refine x_aI e rfl rfl (fun z6 e => ?_)
      refine x_mn rfl rfl ?_
      exact wp_lv (lv' := [(0, .ref v0), (1, .int v1), (2, .int z3)]) rfl ⟨rfl, rfl, rfl, trivial⟩ (x_Y_settleInput_46 e c)
  · have e := Option.some.inj e; subst e; exact wp_vret rfl rfl c
def cL_Y_startTag_14 (L : Nat) (xs : Nat → Int32) (Q : Option Value → ab_H → Prop) (v0 : Nat) (v1 : Int32) (v2 : Int32) (g : g_S) (out : (Int32) ⊕ (Int32)) : Prop := match out with
  | .inl s => wp (ab_ext L xs) J_Y_startTag 14 [(0, .ref v0), (1, .int v1), (2, .int v2), (3, .int s)] [] (hp g) Q
  | .inr s => wp (ab_ext L xs) J_Y_startTag 39 [(0, .ref v0), (1, .int v1), (2, .int v2), (3, .int s)] [] (hp g) Q
noncomputable def b_Y_startTag_14 (v0 : Nat) (v1 : Int32) (v2 : Int32) (v3 : Int32) (g : g_S) : Option ((Int32) ⊕ (Int32)) :=
  if 0 < v3 then
    (rQ g 112 v0 46).bind fun z1 =>
    (rQ g 112 v0 73).bind fun z2 =>
    (aI g 0 z2 v3).bind fun z3 =>
    (aI g 0 z1 z3).bind fun z4 =>
    if z4 = 1 then
      some (.inr v3)
    else
      some (.inl (v3 + (-1)))
  else
    some (.inr v3)
set_option maxRecDepth 20000 in
theorem y_Y_startTag_14 {L : Nat} {xs : Nat → Int32} {Q : Option Value → ab_H → Prop} {v0 : Nat} {v1 : Int32} {v2 : Int32} {v3 : Int32} {g : g_S} {out : (Int32) ⊕ (Int32)} (e : b_Y_startTag_14 v0 v1 v2 v3 g = some out) (c : cL_Y_startTag_14 L xs Q v0 v1 v2 g out) : wp (ab_ext L xs) J_Y_startTag 14 [(0, .ref v0), (1, .int v1), (2, .int v2), (3, .int v3)] [] (hp g) Q := by
  unfold b_Y_startTag_14 at e
  refine wp_p (j := J_Y_startTag) 1 (pc' := 15) (lv' := [(0, .ref v0), (1, .int v1), (2, .int v2), (3, .int v3)]) (st' := [.int v3]) rfl ?_
  refine z_le e rfl (fun e => ?_) (fun e => ?_)
  · refine wp_p (j := J_Y_startTag) 1 (pc' := 19) (lv' := [(0, .ref v0), (1, .int v1), (2, .int v2), (3, .int v3)]) (st' := [.ref v0]) rfl ?_
    refine x_gQ e rfl rfl fd_12_46 rfl (fun z1 e => ?_)
    refine wp_p (j := J_Y_startTag) 1 (pc' := 23) (lv' := [(0, .ref v0), (1, .int v1), (2, .int v2), (3, .int v3)]) (st' := [.ref v0, .ref z1]) rfl ?_
    refine x_gQ e rfl rfl fd_12_73 rfl (fun z2 e => ?_)
    refine wp_p (j := J_Y_startTag) 1 (pc' := 27) (lv' := [(0, .ref v0), (1, .int v1), (2, .int v2), (3, .int v3)]) (st' := [.int v3, .ref z2, .ref z1]) rfl ?_
    refine x_aI e rfl rfl (fun z3 e => ?_)
    refine x_aI e rfl rfl (fun z4 e => ?_)
    refine wp_p (j := J_Y_startTag) 1 (pc' := 30) (lv' := [(0, .ref v0), (1, .int v1), (2, .int v2), (3, .int v3)]) (st' := [.int 1, .int z4]) rfl ?_
    refine x_eq e rfl (fun e => ?_) (fun e => ?_)
    · have e := Option.some.inj e; subst e; exact wp_lv (lv' := [(0, .ref v0), (1, .int v1), (2, .int v2), (3, .int v3)]) rfl ⟨rfl, rfl, rfl, rfl, trivial⟩ c
    · refine wp_p (j := J_Y_startTag) 2 (pc' := 14) (lv' := [(3, .int (v3 + (-1))), (0, .ref v0), (1, .int v1), (2, .int v2)]) (st' := []) rfl ?_
      have e := Option.some.inj e; subst e; exact wp_lv (lv' := [(0, .ref v0), (1, .int v1), (2, .int v2), (3, .int (v3 + (-1)))]) rfl ⟨rfl, rfl, rfl, rfl, trivial⟩ c
  · have e := Option.some.inj e; subst e; exact wp_lv (lv' := [(0, .ref v0), (1, .int v1), (2, .int v2), (3, .int v3)]) rfl ⟨rfl, rfl, rfl, rfl, trivial⟩ c
noncomputable def L_Y_startTag_14 (v0 : Nat) (v1 : Int32) (v2 : Int32) (v3 : Int32) (g : g_S) : Option (Int32) := it (fun s : Int32 => b_Y_startTag_14 v0 v1 v2 s g) (v3)
theorem l_Y_startTag_14 {L : Nat} {xs : Nat → Int32} {Q : Option Value → ab_H → Prop} {v0 : Nat} {v1 : Int32} {v2 : Int32} {v3 : Int32} {g : g_S} {r : Int32} (e : L_Y_startTag_14 v0 v1 v2 v3 g = some r) (c : cL_Y_startTag_14 L xs Q v0 v1 v2 g (.inr r)) : wp (ab_ext L xs) J_Y_startTag 14 [(0, .ref v0), (1, .int v1), (2, .int v2), (3, .int v3)] [] (hp g) Q :=
  it_wp (P := fun s : Int32 => wp (ab_ext L xs) J_Y_startTag 14 [(0, .ref v0), (1, .int v1), (2, .int v2), (3, .int s)] [] (hp g) Q) (E := fun r => cL_Y_startTag_14 L xs Q v0 v1 v2 g (.inr r)) (fun s out e c => y_Y_startTag_14 e (by cases out <;> exact c)) e c
theorem L_Y_startTag_14_eq (v0 : Nat) (v1 : Int32) (v2 : Int32) (v3 : Int32) (g : g_S) : L_Y_startTag_14 v0 v1 v2 v3 g = itc (b_Y_startTag_14 v0 v1 v2 v3 g) (fun s => L_Y_startTag_14 v0 v1 v2 s g) := it_eq2 (fun s : Int32 => b_Y_startTag_14 v0 v1 v2 s g) (v3)
def cL_Y_startTag_141 (L : Nat) (xs : Nat → Int32) (Q : Option Value → ab_H → Prop) (v0 : Nat) (v1 : Int32) (v2 : Int32) (g : g_S) (out : (Int32) ⊕ (Int32)) : Prop := match out with
  | .inl s => wp (ab_ext L xs) J_Y_startTag 141 [(0, .ref v0), (1, .int v1), (2, .int v2), (3, .int s)] [] (hp g) Q
  | .inr s => wp (ab_ext L xs) J_Y_startTag 167 [(0, .ref v0), (1, .int v1), (2, .int v2), (3, .int s)] [] (hp g) Q
noncomputable def b_Y_startTag_141 (v0 : Nat) (v1 : Int32) (v2 : Int32) (v3 : Int32) (g : g_S) : Option ((Int32) ⊕ (Int32)) :=
  if 0 < v3 then
    (rQ g 112 v0 46).bind fun z1 =>
    (rQ g 112 v0 73).bind fun z2 =>
    (aI g 0 z2 v3).bind fun z3 =>
    (aI g 0 z1 z3).bind fun z4 =>
    if z4 = 7 then
      some (.inr v3)
    else
      some (.inl (v3 + (-1)))
  else
    some (.inr v3)
set_option maxRecDepth 20000 in
theorem y_Y_startTag_141 {L : Nat} {xs : Nat → Int32} {Q : Option Value → ab_H → Prop} {v0 : Nat} {v1 : Int32} {v2 : Int32} {v3 : Int32} {g : g_S} {out : (Int32) ⊕ (Int32)} (e : b_Y_startTag_141 v0 v1 v2 v3 g = some out) (c : cL_Y_startTag_141 L xs Q v0 v1 v2 g out) : wp (ab_ext L xs) J_Y_startTag 141 [(0, .ref v0), (1, .int v1), (2, .int v2), (3, .int v3)] [] (hp g) Q := by
  unfold b_Y_startTag_141 at e
  refine wp_p (j := J_Y_startTag) 1 (pc' := 142) (lv' := [(0, .ref v0), (1, .int v1), (2, .int v2), (3, .int v3)]) (st' := [.int v3]) rfl ?_
  refine z_le e rfl (fun e => ?_) (fun e => ?_)
  · refine wp_p (j := J_Y_startTag) 1 (pc' := 146) (lv' := [(0, .ref v0), (1, .int v1), (2, .int v2), (3, .int v3)]) (st' := [.ref v0]) rfl ?_
    refine x_gQ e rfl rfl fd_12_46 rfl (fun z1 e => ?_)
    refine wp_p (j := J_Y_startTag) 1 (pc' := 150) (lv' := [(0, .ref v0), (1, .int v1), (2, .int v2), (3, .int v3)]) (st' := [.ref v0, .ref z1]) rfl ?_
    refine x_gQ e rfl rfl fd_12_73 rfl (fun z2 e => ?_)
    refine wp_p (j := J_Y_startTag) 1 (pc' := 154) (lv' := [(0, .ref v0), (1, .int v1), (2, .int v2), (3, .int v3)]) (st' := [.int v3, .ref z2, .ref z1]) rfl ?_
    refine x_aI e rfl rfl (fun z3 e => ?_)
    refine x_aI e rfl rfl (fun z4 e => ?_)
    refine wp_p (j := J_Y_startTag) 1 (pc' := 158) (lv' := [(0, .ref v0), (1, .int v1), (2, .int v2), (3, .int v3)]) (st' := [.int 7, .int z4]) rfl ?_
    refine x_eq e rfl (fun e => ?_) (fun e => ?_)
    · have e := Option.some.inj e; subst e; exact wp_lv (lv' := [(0, .ref v0), (1, .int v1), (2, .int v2), (3, .int v3)]) rfl ⟨rfl, rfl, rfl, rfl, trivial⟩ c
    · refine wp_p (j := J_Y_startTag) 2 (pc' := 141) (lv' := [(3, .int (v3 + (-1))), (0, .ref v0), (1, .int v1), (2, .int v2)]) (st' := []) rfl ?_
      have e := Option.some.inj e; subst e; exact wp_lv (lv' := [(0, .ref v0), (1, .int v1), (2, .int v2), (3, .int (v3 + (-1)))]) rfl ⟨rfl, rfl, rfl, rfl, trivial⟩ c
  · have e := Option.some.inj e; subst e; exact wp_lv (lv' := [(0, .ref v0), (1, .int v1), (2, .int v2), (3, .int v3)]) rfl ⟨rfl, rfl, rfl, rfl, trivial⟩ c
noncomputable def L_Y_startTag_141 (v0 : Nat) (v1 : Int32) (v2 : Int32) (v3 : Int32) (g : g_S) : Option (Int32) := it (fun s : Int32 => b_Y_startTag_141 v0 v1 v2 s g) (v3)
theorem l_Y_startTag_141 {L : Nat} {xs : Nat → Int32} {Q : Option Value → ab_H → Prop} {v0 : Nat} {v1 : Int32} {v2 : Int32} {v3 : Int32} {g : g_S} {r : Int32} (e : L_Y_startTag_141 v0 v1 v2 v3 g = some r) (c : cL_Y_startTag_141 L xs Q v0 v1 v2 g (.inr r)) : wp (ab_ext L xs) J_Y_startTag 141 [(0, .ref v0), (1, .int v1), (2, .int v2), (3, .int v3)] [] (hp g) Q :=
  it_wp (P := fun s : Int32 => wp (ab_ext L xs) J_Y_startTag 141 [(0, .ref v0), (1, .int v1), (2, .int v2), (3, .int s)] [] (hp g) Q) (E := fun r => cL_Y_startTag_141 L xs Q v0 v1 v2 g (.inr r)) (fun s out e c => y_Y_startTag_141 e (by cases out <;> exact c)) e c
theorem L_Y_startTag_141_eq (v0 : Nat) (v1 : Int32) (v2 : Int32) (v3 : Int32) (g : g_S) : L_Y_startTag_141 v0 v1 v2 v3 g = itc (b_Y_startTag_141 v0 v1 v2 v3 g) (fun s => L_Y_startTag_141 v0 v1 v2 s g) := it_eq2 (fun s : Int32 => b_Y_startTag_141 v0 v1 v2 s g) (v3)
def cL_Y_startTag_62 (L : Nat) (xs : Nat → Int32) (Q : Option Value → ab_H → Prop) (v0 : Nat) (v1 : Int32) (v2 : Int32) (g : g_S) (out : (Int32) ⊕ (Int32)) : Prop := match out with
  | .inl s => wp (ab_ext L xs) J_Y_startTag 62 [(0, .ref v0), (1, .int v1), (2, .int v2), (3, .int s)] [] (hp g) Q
  | .inr s => wp (ab_ext L xs) J_Y_startTag 102 [(0, .ref v0), (1, .int v1), (2, .int v2), (3, .int s)] [] (hp g) Q
noncomputable def b_Y_startTag_62 (v0 : Nat) (v1 : Int32) (v2 : Int32) (v3 : Int32) (g : g_S) : Option ((Int32) ⊕ (Int32)) :=
  if 0 < v3 then
    (rQ g 112 v0 46).bind fun z1 =>
    (rQ g 112 v0 73).bind fun z2 =>
    (aI g 0 z2 v3).bind fun z3 =>
    (aI g 0 z1 z3).bind fun z4 =>
    if z4 = 4 then
      some (.inr v3)
    else
      (rQ g 112 v0 46).bind fun z5 =>
      (rQ g 112 v0 73).bind fun z6 =>
      (aI g 0 z6 v3).bind fun z7 =>
      (aI g 0 z5 z7).bind fun z8 =>
      if z8 = 3 then
        some (.inr v3)
      else
        some (.inl (v3 + (-1)))
  else
    some (.inr v3)
set_option maxRecDepth 20000 in
theorem y_Y_startTag_62 {L : Nat} {xs : Nat → Int32} {Q : Option Value → ab_H → Prop} {v0 : Nat} {v1 : Int32} {v2 : Int32} {v3 : Int32} {g : g_S} {out : (Int32) ⊕ (Int32)} (e : b_Y_startTag_62 v0 v1 v2 v3 g = some out) (c : cL_Y_startTag_62 L xs Q v0 v1 v2 g out) : wp (ab_ext L xs) J_Y_startTag 62 [(0, .ref v0), (1, .int v1), (2, .int v2), (3, .int v3)] [] (hp g) Q := by
  unfold b_Y_startTag_62 at e
  refine wp_p (j := J_Y_startTag) 1 (pc' := 63) (lv' := [(0, .ref v0), (1, .int v1), (2, .int v2), (3, .int v3)]) (st' := [.int v3]) rfl ?_
  refine z_le e rfl (fun e => ?_) (fun e => ?_)
  · refine wp_p (j := J_Y_startTag) 1 (pc' := 67) (lv' := [(0, .ref v0), (1, .int v1), (2, .int v2), (3, .int v3)]) (st' := [.ref v0]) rfl ?_
    refine x_gQ e rfl rfl fd_12_46 rfl (fun z1 e => ?_)
    refine wp_p (j := J_Y_startTag) 1 (pc' := 71) (lv' := [(0, .ref v0), (1, .int v1), (2, .int v2), (3, .int v3)]) (st' := [.ref v0, .ref z1]) rfl ?_
    refine x_gQ e rfl rfl fd_12_73 rfl (fun z2 e => ?_)
    refine wp_p (j := J_Y_startTag) 1 (pc' := 75) (lv' := [(0, .ref v0), (1, .int v1), (2, .int v2), (3, .int v3)]) (st' := [.int v3, .ref z2, .ref z1]) rfl ?_
    refine x_aI e rfl rfl (fun z3 e => ?_)
    refine x_aI e rfl rfl (fun z4 e => ?_)
    refine wp_p (j := J_Y_startTag) 1 (pc' := 78) (lv' := [(0, .ref v0), (1, .int v1), (2, .int v2), (3, .int v3)]) (st' := [.int 4, .int z4]) rfl ?_
    refine x_eq e rfl (fun e => ?_) (fun e => ?_)
    · have e := Option.some.inj e; subst e; exact wp_lv (lv' := [(0, .ref v0), (1, .int v1), (2, .int v2), (3, .int v3)]) rfl ⟨rfl, rfl, rfl, rfl, trivial⟩ c
    · refine wp_p (j := J_Y_startTag) 1 (pc' := 82) (lv' := [(0, .ref v0), (1, .int v1), (2, .int v2), (3, .int v3)]) (st' := [.ref v0]) rfl ?_
      refine x_gQ e rfl rfl fd_12_46 rfl (fun z5 e => ?_)
      refine wp_p (j := J_Y_startTag) 1 (pc' := 86) (lv' := [(0, .ref v0), (1, .int v1), (2, .int v2), (3, .int v3)]) (st' := [.ref v0, .ref z5]) rfl ?_
      refine x_gQ e rfl rfl fd_12_73 rfl (fun z6 e => ?_)
      refine wp_p (j := J_Y_startTag) 1 (pc' := 90) (lv' := [(0, .ref v0), (1, .int v1), (2, .int v2), (3, .int v3)]) (st' := [.int v3, .ref z6, .ref z5]) rfl ?_
      refine x_aI e rfl rfl (fun z7 e => ?_)
      refine x_aI e rfl rfl (fun z8 e => ?_)
      refine wp_p (j := J_Y_startTag) 1 (pc' := 93) (lv' := [(0, .ref v0), (1, .int v1), (2, .int v2), (3, .int v3)]) (st' := [.int 3, .int z8]) rfl ?_
      refine x_eq e rfl (fun e => ?_) (fun e => ?_)
      · have e := Option.some.inj e; subst e; exact wp_lv (lv' := [(0, .ref v0), (1, .int v1), (2, .int v2), (3, .int v3)]) rfl ⟨rfl, rfl, rfl, rfl, trivial⟩ c
      · refine wp_p (j := J_Y_startTag) 2 (pc' := 62) (lv' := [(3, .int (v3 + (-1))), (0, .ref v0), (1, .int v1), (2, .int v2)]) (st' := []) rfl ?_
        have e := Option.some.inj e; subst e; exact wp_lv (lv' := [(0, .ref v0), (1, .int v1), (2, .int v2), (3, .int (v3 + (-1)))]) rfl ⟨rfl, rfl, rfl, rfl, trivial⟩ c
  · have e := Option.some.inj e; subst e; exact wp_lv (lv' := [(0, .ref v0), (1, .int v1), (2, .int v2), (3, .int v3)]) rfl ⟨rfl, rfl, rfl, rfl, trivial⟩ c
noncomputable def L_Y_startTag_62 (v0 : Nat) (v1 : Int32) (v2 : Int32) (v3 : Int32) (g : g_S) : Option (Int32) := it (fun s : Int32 => b_Y_startTag_62 v0 v1 v2 s g) (v3)
theorem l_Y_startTag_62 {L : Nat} {xs : Nat → Int32} {Q : Option Value → ab_H → Prop} {v0 : Nat} {v1 : Int32} {v2 : Int32} {v3 : Int32} {g : g_S} {r : Int32} (e : L_Y_startTag_62 v0 v1 v2 v3 g = some r) (c : cL_Y_startTag_62 L xs Q v0 v1 v2 g (.inr r)) : wp (ab_ext L xs) J_Y_startTag 62 [(0, .ref v0), (1, .int v1), (2, .int v2), (3, .int v3)] [] (hp g) Q :=
  it_wp (P := fun s : Int32 => wp (ab_ext L xs) J_Y_startTag 62 [(0, .ref v0), (1, .int v1), (2, .int v2), (3, .int s)] [] (hp g) Q) (E := fun r => cL_Y_startTag_62 L xs Q v0 v1 v2 g (.inr r)) (fun s out e c => y_Y_startTag_62 e (by cases out <;> exact c)) e c
theorem L_Y_startTag_62_eq (v0 : Nat) (v1 : Int32) (v2 : Int32) (v3 : Int32) (g : g_S) : L_Y_startTag_62 v0 v1 v2 v3 g = itc (b_Y_startTag_62 v0 v1 v2 v3 g) (fun s => L_Y_startTag_62 v0 v1 v2 s g) := it_eq2 (fun s : Int32 => b_Y_startTag_62 v0 v1 v2 s g) (v3)
def cL_Y_startTag_292 (L : Nat) (xs : Nat → Int32) (Q : Option Value → ab_H → Prop) (v0 : Nat) (v2 : Int32) (v3 : Int32) (v4 : Int32) (out : (Int32 × g_S) ⊕ (g_S)) : Prop := match out with
  | .inl s => wp (ab_ext L xs) J_Y_startTag 292 [(0, .ref v0), (2, .int v2), (3, .int v3), (4, .int v4), (5, .int s.1)] [] (hp s.2) Q
  | .inr s => wp (ab_ext L xs) J_Y_startTag 335 [(0, .ref v0), (2, .int v2), (3, .int v3), (4, .int v4)] [] (hp s) Q
noncomputable def b_Y_startTag_292 (v0 : Nat) (v2 : Int32) (v3 : Int32) (v4 : Int32) (v5 : Int32) (g : g_S) : Option ((Int32 × g_S) ⊕ (g_S)) :=
  if v5 < 8 then
    (rQ g 112 v0 57).bind fun z1 =>
    (rQ g 112 v0 81).bind fun z2 =>
    (aI g 1 z2 ((8 * v4) + v5)).bind fun z3 =>
    (sB g z1 ((8 * ((4 * v3) + v4)) + v5) z3).bind fun g4 =>
    some (.inl (v5 + 1, g4))
  else
    some (.inr g)
set_option maxRecDepth 20000 in
theorem y_Y_startTag_292 {L : Nat} {xs : Nat → Int32} {Q : Option Value → ab_H → Prop} {v0 : Nat} {v2 : Int32} {v3 : Int32} {v4 : Int32} {v5 : Int32} {g : g_S} {out : (Int32 × g_S) ⊕ (g_S)} (e : b_Y_startTag_292 v0 v2 v3 v4 v5 g = some out) (c : cL_Y_startTag_292 L xs Q v0 v2 v3 v4 out) : wp (ab_ext L xs) J_Y_startTag 292 [(0, .ref v0), (2, .int v2), (3, .int v3), (4, .int v4), (5, .int v5)] [] (hp g) Q := by
  unfold b_Y_startTag_292 at e
  refine wp_p (j := J_Y_startTag) 2 (pc' := 296) (lv' := [(0, .ref v0), (2, .int v2), (3, .int v3), (4, .int v4), (5, .int v5)]) (st' := [.int 8, .int v5]) rfl ?_
  refine x_ge e rfl (fun e => ?_) (fun e => ?_)
  · refine wp_p (j := J_Y_startTag) 1 (pc' := 300) (lv' := [(0, .ref v0), (2, .int v2), (3, .int v3), (4, .int v4), (5, .int v5)]) (st' := [.ref v0]) rfl ?_
    refine x_gQ e rfl rfl fd_12_57 rfl (fun z1 e => ?_)
    refine wp_p (j := J_Y_startTag) 10 (pc' := 316) (lv' := [(0, .ref v0), (2, .int v2), (3, .int v3), (4, .int v4), (5, .int v5)]) (st' := [.ref v0, .int ((8 * ((4 * v3) + v4)) + v5), .ref z1]) rfl ?_
    refine x_gQ e rfl rfl fd_12_81 rfl (fun z2 e => ?_)
    refine wp_p (j := J_Y_startTag) 5 (pc' := 327) (lv' := [(0, .ref v0), (2, .int v2), (3, .int v3), (4, .int v4), (5, .int v5)]) (st' := [.int ((8 * v4) + v5), .ref z2, .int ((8 * ((4 * v3) + v4)) + v5), .ref z1]) rfl ?_
    refine x_aB e rfl (.inl rfl) rfl (fun z3 e => ?_)
    refine x_sB e rfl rfl (fun g4 e => ?_)
    refine wp_p (j := J_Y_startTag) 2 (pc' := 292) (lv' := [(5, .int (v5 + 1)), (0, .ref v0), (2, .int v2), (3, .int v3), (4, .int v4)]) (st' := []) rfl ?_
    have e := Option.some.inj e; subst e; exact wp_lv (lv' := [(0, .ref v0), (2, .int v2), (3, .int v3), (4, .int v4), (5, .int (v5 + 1))]) rfl ⟨rfl, rfl, rfl, rfl, rfl, trivial⟩ c
  · have e := Option.some.inj e; subst e; exact wp_lv (lv' := [(0, .ref v0), (2, .int v2), (3, .int v3), (4, .int v4)]) rfl ⟨rfl, rfl, rfl, rfl, trivial⟩ c
noncomputable def L_Y_startTag_292 (v0 : Nat) (v2 : Int32) (v3 : Int32) (v4 : Int32) (v5 : Int32) (g : g_S) : Option (g_S) := it (fun s : Int32 × g_S => b_Y_startTag_292 v0 v2 v3 v4 s.1 s.2) (v5, g)
theorem l_Y_startTag_292 {L : Nat} {xs : Nat → Int32} {Q : Option Value → ab_H → Prop} {v0 : Nat} {v2 : Int32} {v3 : Int32} {v4 : Int32} {v5 : Int32} {g : g_S} {r : g_S} (e : L_Y_startTag_292 v0 v2 v3 v4 v5 g = some r) (c : cL_Y_startTag_292 L xs Q v0 v2 v3 v4 (.inr r)) : wp (ab_ext L xs) J_Y_startTag 292 [(0, .ref v0), (2, .int v2), (3, .int v3), (4, .int v4), (5, .int v5)] [] (hp g) Q :=
  it_wp (P := fun s : Int32 × g_S => wp (ab_ext L xs) J_Y_startTag 292 [(0, .ref v0), (2, .int v2), (3, .int v3), (4, .int v4), (5, .int s.1)] [] (hp s.2) Q) (E := fun r => cL_Y_startTag_292 L xs Q v0 v2 v3 v4 (.inr r)) (fun s out e c => y_Y_startTag_292 e (by cases out <;> exact c)) e c
theorem L_Y_startTag_292_eq (v0 : Nat) (v2 : Int32) (v3 : Int32) (v4 : Int32) (v5 : Int32) (g : g_S) : L_Y_startTag_292 v0 v2 v3 v4 v5 g = itc (b_Y_startTag_292 v0 v2 v3 v4 v5 g) (fun s => L_Y_startTag_292 v0 v2 v3 v4 s.1 s.2) := it_eq2 (fun s : Int32 × g_S => b_Y_startTag_292 v0 v2 v3 v4 s.1 s.2) (v5, g)
def cL_Y_startTag_338 (L : Nat) (xs : Nat → Int32) (Q : Option Value → ab_H → Prop) (v0 : Nat) (v2 : Int32) (v3 : Int32) (v4 : Int32) (out : (Int32 × g_S) ⊕ (g_S)) : Prop := match out with
  | .inl s => wp (ab_ext L xs) J_Y_startTag 338 [(0, .ref v0), (2, .int v2), (3, .int v3), (4, .int v4), (5, .int s.1)] [] (hp s.2) Q
  | .inr s => wp (ab_ext L xs) J_Y_startTag 381 [(0, .ref v0), (2, .int v2), (3, .int v3), (4, .int v4)] [] (hp s) Q
noncomputable def b_Y_startTag_338 (v0 : Nat) (v2 : Int32) (v3 : Int32) (v4 : Int32) (v5 : Int32) (g : g_S) : Option ((Int32 × g_S) ⊕ (g_S)) :=
  if v5 < 60 then
    (rQ g 112 v0 59).bind fun z1 =>
    (rQ g 112 v0 83).bind fun z2 =>
    (aI g 1 z2 ((60 * v4) + v5)).bind fun z3 =>
    (sB g z1 ((60 * ((4 * v3) + v4)) + v5) z3).bind fun g4 =>
    some (.inl (v5 + 1, g4))
  else
    some (.inr g)
set_option maxRecDepth 20000 in
theorem y_Y_startTag_338 {L : Nat} {xs : Nat → Int32} {Q : Option Value → ab_H → Prop} {v0 : Nat} {v2 : Int32} {v3 : Int32} {v4 : Int32} {v5 : Int32} {g : g_S} {out : (Int32 × g_S) ⊕ (g_S)} (e : b_Y_startTag_338 v0 v2 v3 v4 v5 g = some out) (c : cL_Y_startTag_338 L xs Q v0 v2 v3 v4 out) : wp (ab_ext L xs) J_Y_startTag 338 [(0, .ref v0), (2, .int v2), (3, .int v3), (4, .int v4), (5, .int v5)] [] (hp g) Q := by
  unfold b_Y_startTag_338 at e
  refine wp_p (j := J_Y_startTag) 2 (pc' := 342) (lv' := [(0, .ref v0), (2, .int v2), (3, .int v3), (4, .int v4), (5, .int v5)]) (st' := [.int 60, .int v5]) rfl ?_
  refine x_ge e rfl (fun e => ?_) (fun e => ?_)
  · refine wp_p (j := J_Y_startTag) 1 (pc' := 346) (lv' := [(0, .ref v0), (2, .int v2), (3, .int v3), (4, .int v4), (5, .int v5)]) (st' := [.ref v0]) rfl ?_
    refine x_gQ e rfl rfl fd_12_59 rfl (fun z1 e => ?_)
    refine wp_p (j := J_Y_startTag) 10 (pc' := 362) (lv' := [(0, .ref v0), (2, .int v2), (3, .int v3), (4, .int v4), (5, .int v5)]) (st' := [.ref v0, .int ((60 * ((4 * v3) + v4)) + v5), .ref z1]) rfl ?_
    refine x_gQ e rfl rfl fd_12_83 rfl (fun z2 e => ?_)
    refine wp_p (j := J_Y_startTag) 5 (pc' := 373) (lv' := [(0, .ref v0), (2, .int v2), (3, .int v3), (4, .int v4), (5, .int v5)]) (st' := [.int ((60 * v4) + v5), .ref z2, .int ((60 * ((4 * v3) + v4)) + v5), .ref z1]) rfl ?_
    refine x_aB e rfl (.inl rfl) rfl (fun z3 e => ?_)
    refine x_sB e rfl rfl (fun g4 e => ?_)
    refine wp_p (j := J_Y_startTag) 2 (pc' := 338) (lv' := [(5, .int (v5 + 1)), (0, .ref v0), (2, .int v2), (3, .int v3), (4, .int v4)]) (st' := []) rfl ?_
    have e := Option.some.inj e; subst e; exact wp_lv (lv' := [(0, .ref v0), (2, .int v2), (3, .int v3), (4, .int v4), (5, .int (v5 + 1))]) rfl ⟨rfl, rfl, rfl, rfl, rfl, trivial⟩ c
  · have e := Option.some.inj e; subst e; exact wp_lv (lv' := [(0, .ref v0), (2, .int v2), (3, .int v3), (4, .int v4)]) rfl ⟨rfl, rfl, rfl, rfl, trivial⟩ c
noncomputable def L_Y_startTag_338 (v0 : Nat) (v2 : Int32) (v3 : Int32) (v4 : Int32) (v5 : Int32) (g : g_S) : Option (g_S) := it (fun s : Int32 × g_S => b_Y_startTag_338 v0 v2 v3 v4 s.1 s.2) (v5, g)
theorem l_Y_startTag_338 {L : Nat} {xs : Nat → Int32} {Q : Option Value → ab_H → Prop} {v0 : Nat} {v2 : Int32} {v3 : Int32} {v4 : Int32} {v5 : Int32} {g : g_S} {r : g_S} (e : L_Y_startTag_338 v0 v2 v3 v4 v5 g = some r) (c : cL_Y_startTag_338 L xs Q v0 v2 v3 v4 (.inr r)) : wp (ab_ext L xs) J_Y_startTag 338 [(0, .ref v0), (2, .int v2), (3, .int v3), (4, .int v4), (5, .int v5)] [] (hp g) Q :=
  it_wp (P := fun s : Int32 × g_S => wp (ab_ext L xs) J_Y_startTag 338 [(0, .ref v0), (2, .int v2), (3, .int v3), (4, .int v4), (5, .int s.1)] [] (hp s.2) Q) (E := fun r => cL_Y_startTag_338 L xs Q v0 v2 v3 v4 (.inr r)) (fun s out e c => y_Y_startTag_338 e (by cases out <;> exact c)) e c
theorem L_Y_startTag_338_eq (v0 : Nat) (v2 : Int32) (v3 : Int32) (v4 : Int32) (v5 : Int32) (g : g_S) : L_Y_startTag_338 v0 v2 v3 v4 v5 g = itc (b_Y_startTag_338 v0 v2 v3 v4 v5 g) (fun s => L_Y_startTag_338 v0 v2 v3 v4 s.1 s.2) := it_eq2 (fun s : Int32 × g_S => b_Y_startTag_338 v0 v2 v3 v4 s.1 s.2) (v5, g)
def cL_Y_startTag_244 (L : Nat) (xs : Nat → Int32) (Q : Option Value → ab_H → Prop) (v0 : Nat) (v2 : Int32) (v3 : Int32) (out : (Int32 × g_S) ⊕ (g_S)) : Prop := match out with
  | .inl s => wp (ab_ext L xs) J_Y_startTag 244 [(0, .ref v0), (2, .int v2), (3, .int v3), (4, .int s.1)] [] (hp s.2) Q
  | .inr s => wp (ab_ext L xs) J_Y_startTag 387 [(0, .ref v0), (2, .int v2), (3, .int v3)] [] (hp s) Q
noncomputable def b_Y_startTag_244 (v0 : Nat) (v2 : Int32) (v3 : Int32) (v4 : Int32) (g : g_S) : Option ((Int32 × g_S) ⊕ (g_S)) :=
  (rI g 112 v0 80).bind fun z1 =>
  if v4 < z1 then
    (rQ g 112 v0 58).bind fun z2 =>
    (rQ g 112 v0 82).bind fun z3 =>
    (aI g 0 z3 v4).bind fun z4 =>
    (sI g z2 ((4 * v3) + v4) z4).bind fun g5 =>
    (rQ g5 112 v0 60).bind fun z6 =>
    (rQ g5 112 v0 84).bind fun z7 =>
    (aI g5 0 z7 v4).bind fun z8 =>
    (sI g5 z6 ((4 * v3) + v4) z8).bind fun g9 =>
    (L_Y_startTag_292 v0 v2 v3 v4 0 g9).bind <| fun g12 =>
    (L_Y_startTag_338 v0 v2 v3 v4 0 g12).bind <| fun g15 =>
    some (.inl (v4 + 1, g15))
  else
    some (.inr g)
set_option maxRecDepth 20000 in
theorem y_Y_startTag_244 {L : Nat} {xs : Nat → Int32} {Q : Option Value → ab_H → Prop} {v0 : Nat} {v2 : Int32} {v3 : Int32} {v4 : Int32} {g : g_S} {out : (Int32 × g_S) ⊕ (g_S)} (e : b_Y_startTag_244 v0 v2 v3 v4 g = some out) (c : cL_Y_startTag_244 L xs Q v0 v2 v3 out) : wp (ab_ext L xs) J_Y_startTag 244 [(0, .ref v0), (2, .int v2), (3, .int v3), (4, .int v4)] [] (hp g) Q := by
  unfold b_Y_startTag_244 at e
  refine wp_p (j := J_Y_startTag) 2 (pc' := 247) (lv' := [(0, .ref v0), (2, .int v2), (3, .int v3), (4, .int v4)]) (st' := [.ref v0, .int v4]) rfl ?_
  refine x_gI e rfl rfl fd_12_80 rfl (fun z1 e => ?_)
  refine x_ge e rfl (fun e => ?_) (fun e => ?_)
  · refine wp_p (j := J_Y_startTag) 1 (pc' := 254) (lv' := [(0, .ref v0), (2, .int v2), (3, .int v3), (4, .int v4)]) (st' := [.ref v0]) rfl ?_
    refine x_gQ e rfl rfl fd_12_58 rfl (fun z2 e => ?_)
    refine wp_p (j := J_Y_startTag) 6 (pc' := 264) (lv' := [(0, .ref v0), (2, .int v2), (3, .int v3), (4, .int v4)]) (st' := [.ref v0, .int ((4 * v3) + v4), .ref z2]) rfl ?_
    refine x_gQ e rfl rfl fd_12_82 rfl (fun z3 e => ?_)
    refine wp_p (j := J_Y_startTag) 1 (pc' := 269) (lv' := [(0, .ref v0), (2, .int v2), (3, .int v3), (4, .int v4)]) (st' := [.int v4, .ref z3, .int ((4 * v3) + v4), .ref z2]) rfl ?_
    refine x_aI e rfl rfl (fun z4 e => ?_)
    refine x_sI e rfl rfl (fun g5 e => ?_)
    refine wp_p (j := J_Y_startTag) 1 (pc' := 272) (lv' := [(0, .ref v0), (2, .int v2), (3, .int v3), (4, .int v4)]) (st' := [.ref v0]) rfl ?_
    refine x_gQ e rfl rfl fd_12_60 rfl (fun z6 e => ?_)
    refine wp_p (j := J_Y_startTag) 6 (pc' := 282) (lv' := [(0, .ref v0), (2, .int v2), (3, .int v3), (4, .int v4)]) (st' := [.ref v0, .int ((4 * v3) + v4), .ref z6]) rfl ?_
    refine x_gQ e rfl rfl fd_12_84 rfl (fun z7 e => ?_)
    refine wp_p (j := J_Y_startTag) 1 (pc' := 287) (lv' := [(0, .ref v0), (2, .int v2), (3, .int v3), (4, .int v4)]) (st' := [.int v4, .ref z7, .int ((4 * v3) + v4), .ref z6]) rfl ?_
    refine x_aI e rfl rfl (fun z8 e => ?_)
    refine x_sI e rfl rfl (fun g9 e => ?_)
    refine wp_p (j := J_Y_startTag) 2 (pc' := 292) (lv' := [(5, .int 0), (0, .ref v0), (2, .int v2), (3, .int v3), (4, .int v4)]) (st' := []) rfl ?_
    obtain ⟨g12, h11, e⟩ := bd e
    refine wp_lv (lv' := [(0, .ref v0), (2, .int v2), (3, .int v3), (4, .int v4), (5, .int 0)]) rfl ⟨rfl, rfl, rfl, rfl, rfl, trivial⟩ ?_
    refine l_Y_startTag_292 h11 ?_
    show wp (ab_ext L xs) J_Y_startTag 335 [(0, .ref v0), (2, .int v2), (3, .int v3), (4, .int v4)] [] (hp g12) Q
    refine wp_p (j := J_Y_startTag) 2 (pc' := 338) (lv' := [(5, .int 0), (0, .ref v0), (2, .int v2), (3, .int v3), (4, .int v4)]) (st' := []) rfl ?_
    obtain ⟨g15, h14, e⟩ := bd e
    refine wp_lv (lv' := [(0, .ref v0), (2, .int v2), (3, .int v3), (4, .int v4), (5, .int 0)]) rfl ⟨rfl, rfl, rfl, rfl, rfl, trivial⟩ ?_
    refine l_Y_startTag_338 h14 ?_
    show wp (ab_ext L xs) J_Y_startTag 381 [(0, .ref v0), (2, .int v2), (3, .int v3), (4, .int v4)] [] (hp g15) Q
    refine wp_p (j := J_Y_startTag) 2 (pc' := 244) (lv' := [(4, .int (v4 + 1)), (0, .ref v0), (2, .int v2), (3, .int v3)]) (st' := []) rfl ?_
    have e := Option.some.inj e; subst e; exact wp_lv (lv' := [(0, .ref v0), (2, .int v2), (3, .int v3), (4, .int (v4 + 1))]) rfl ⟨rfl, rfl, rfl, rfl, trivial⟩ c
  · have e := Option.some.inj e; subst e; exact wp_lv (lv' := [(0, .ref v0), (2, .int v2), (3, .int v3)]) rfl ⟨rfl, rfl, rfl, trivial⟩ c
noncomputable def L_Y_startTag_244 (v0 : Nat) (v2 : Int32) (v3 : Int32) (v4 : Int32) (g : g_S) : Option (g_S) := it (fun s : Int32 × g_S => b_Y_startTag_244 v0 v2 v3 s.1 s.2) (v4, g)
theorem l_Y_startTag_244 {L : Nat} {xs : Nat → Int32} {Q : Option Value → ab_H → Prop} {v0 : Nat} {v2 : Int32} {v3 : Int32} {v4 : Int32} {g : g_S} {r : g_S} (e : L_Y_startTag_244 v0 v2 v3 v4 g = some r) (c : cL_Y_startTag_244 L xs Q v0 v2 v3 (.inr r)) : wp (ab_ext L xs) J_Y_startTag 244 [(0, .ref v0), (2, .int v2), (3, .int v3), (4, .int v4)] [] (hp g) Q :=
  it_wp (P := fun s : Int32 × g_S => wp (ab_ext L xs) J_Y_startTag 244 [(0, .ref v0), (2, .int v2), (3, .int v3), (4, .int s.1)] [] (hp s.2) Q) (E := fun r => cL_Y_startTag_244 L xs Q v0 v2 v3 (.inr r)) (fun s out e c => y_Y_startTag_244 e (by cases out <;> exact c)) e c
theorem L_Y_startTag_244_eq (v0 : Nat) (v2 : Int32) (v3 : Int32) (v4 : Int32) (g : g_S) : L_Y_startTag_244 v0 v2 v3 v4 g = itc (b_Y_startTag_244 v0 v2 v3 v4 g) (fun s => L_Y_startTag_244 v0 v2 v3 s.1 s.2) := it_eq2 (fun s : Int32 × g_S => b_Y_startTag_244 v0 v2 v3 s.1 s.2) (v4, g)
noncomputable def k_Y_startTag_189 (v0 : Nat) (v1 : Int32) (v2 : Int32) (g : g_S) : Option g_S :=
  (rQ g 112 v0 73).bind fun z1 =>
  (rI g 112 v0 74).bind fun z2 =>
  (aI g 0 z1 (z2 - 1)).bind fun z3 =>
  c2 (vc g 112 v0 (M_Y_fresh v0 z3 g)) fun z4 g5 =>
  if z4 = (-1) then
    (vc g5 112 v0 (M_Y_tellFault v0 6 v1 g5)).bind fun g6 =>
    some g6
  else
    (vc g5 112 v0 (M_Y_element v0 z4 v2 g5)).bind fun g7 =>
    (rQ g7 112 v0 67).bind fun z8 =>
    (sI g7 z8 z4 v1).bind fun g9 =>
    (rQ g9 112 v0 56).bind fun z10 =>
    (rI g9 112 v0 80).bind fun z11 =>
    (sI g9 z10 z4 z11).bind fun g12 =>
    (L_Y_startTag_244 v0 v2 z4 0 g12).bind <| fun g15 =>
    (vc g15 112 v0 (M_Y_settleInput v0 z4 g15)).bind fun g16 =>
    (M_Y_isEmptyTag v2 g16).bind fun z17 =>
    if z17 = 0 then
      (rQ g16 112 v0 73).bind fun z18 =>
      (rI g16 112 v0 74).bind fun z19 =>
      (sI g16 z18 z19 z4).bind fun g20 =>
      (rI g20 112 v0 74).bind fun z21 =>
      (wI g20 112 v0 74 (z21 + 1)).bind fun g22 =>
      some g22
    else
      some g16
set_option maxRecDepth 20000 in
theorem x_Y_startTag_189 {L : Nat} {xs : Nat → Int32} {Q : Option Value → ab_H → Prop} {v0 : Nat} {v1 : Int32} {v2 : Int32} {g : g_S} {out : g_S} (e : k_Y_startTag_189 v0 v1 v2 g = some out) (c : Q none (hp out)) : wp (ab_ext L xs) J_Y_startTag 189 [(0, .ref v0), (1, .int v1), (2, .int v2)] [] (hp g) Q := by
  unfold k_Y_startTag_189 at e
  refine wp_p (j := J_Y_startTag) 2 (pc' := 191) (lv' := [(0, .ref v0), (1, .int v1), (2, .int v2)]) (st' := [.ref v0, .ref v0]) rfl ?_
  refine x_gQ e rfl rfl fd_12_73 rfl (fun z1 e => ?_)
  refine wp_p (j := J_Y_startTag) 1 (pc' := 195) (lv' := [(0, .ref v0), (1, .int v1), (2, .int v2)]) (st' := [.ref v0, .ref z1, .ref v0]) rfl ?_
  refine x_gI e rfl rfl fd_12_74 rfl (fun z2 e => ?_)
  refine wp_p (j := J_Y_startTag) 2 (pc' := 200) (lv' := [(0, .ref v0), (1, .int v1), (2, .int v2)]) (st' := [.int (z2 - 1), .ref z1, .ref v0]) rfl ?_
  refine x_aI e rfl rfl (fun z3 e => ?_)
  refine x_cv2 (As := [.int z3]) (rest := []) Value.int e rfl rfl rfl rfl rfl rfl (fun h => d_Y_fresh h ⟨rfl, rfl⟩) (fun z4 g5 e => ?_)
  refine wp_p (j := J_Y_startTag) 3 (pc' := 207) (lv' := [(3, .int z4), (0, .ref v0), (1, .int v1), (2, .int v2)]) (st' := [.int (-1), .int z4]) rfl ?_
  refine x_ne e rfl (fun e => ?_) (fun e => ?_)
  · refine wp_p (j := J_Y_startTag) 3 (pc' := 214) (lv' := [(3, .int z4), (0, .ref v0), (1, .int v1), (2, .int v2)]) (st' := [.int v1, .int 6, .ref v0]) rfl ?_
    refine x_cv0 (As := [.int 6, .int v1]) (rest := []) e rfl rfl rfl rfl rfl rfl (fun h => d_Y_tellFault h ⟨rfl, rfl⟩) (fun g6 e => ?_)
    have e := Option.some.inj e; subst e; exact wp_vret rfl rfl c
  · refine wp_p (j := J_Y_startTag) 3 (pc' := 221) (lv' := [(3, .int z4), (0, .ref v0), (1, .int v1), (2, .int v2)]) (st' := [.int v2, .int z4, .ref v0]) rfl ?_
    refine x_cv0 (As := [.int z4, .int v2]) (rest := []) e rfl rfl rfl rfl rfl rfl (fun h => d_Y_element h ⟨rfl, rfl⟩) (fun g7 e => ?_)
    refine wp_p (j := J_Y_startTag) 1 (pc' := 225) (lv' := [(3, .int z4), (0, .ref v0), (1, .int v1), (2, .int v2)]) (st' := [.ref v0]) rfl ?_
    refine x_gQ e rfl rfl fd_12_67 rfl (fun z8 e => ?_)
    refine wp_p (j := J_Y_startTag) 2 (pc' := 230) (lv' := [(3, .int z4), (0, .ref v0), (1, .int v1), (2, .int v2)]) (st' := [.int v1, .int z4, .ref z8]) rfl ?_
    refine x_sI e rfl rfl (fun g9 e => ?_)
    refine wp_p (j := J_Y_startTag) 1 (pc' := 232) (lv' := [(3, .int z4), (0, .ref v0), (1, .int v1), (2, .int v2)]) (st' := [.ref v0]) rfl ?_
    refine x_gQ e rfl rfl fd_12_56 rfl (fun z10 e => ?_)
    refine wp_p (j := J_Y_startTag) 2 (pc' := 237) (lv' := [(3, .int z4), (0, .ref v0), (1, .int v1), (2, .int v2)]) (st' := [.ref v0, .int z4, .ref z10]) rfl ?_
    refine x_gI e rfl rfl fd_12_80 rfl (fun z11 e => ?_)
    refine x_sI e rfl rfl (fun g12 e => ?_)
    refine wp_p (j := J_Y_startTag) 2 (pc' := 244) (lv' := [(4, .int 0), (3, .int z4), (0, .ref v0), (1, .int v1), (2, .int v2)]) (st' := []) rfl ?_
    obtain ⟨g15, h14, e⟩ := bd e
    refine wp_lv (lv' := [(0, .ref v0), (2, .int v2), (3, .int z4), (4, .int 0)]) rfl ⟨rfl, rfl, rfl, rfl, trivial⟩ ?_
    refine l_Y_startTag_244 h14 ?_
    show wp (ab_ext L xs) J_Y_startTag 387 [(0, .ref v0), (2, .int v2), (3, .int z4)] [] (hp g15) Q
    refine wp_p (j := J_Y_startTag) 2 (pc' := 389) (lv' := [(0, .ref v0), (2, .int v2), (3, .int z4)]) (st' := [.int z4, .ref v0]) rfl ?_
    refine x_cv0 (As := [.int z4]) (rest := []) e rfl rfl rfl rfl rfl rfl (fun h => d_Y_settleInput h ⟨rfl, rfl⟩) (fun g16 e => ?_)
    refine wp_p (j := J_Y_startTag) 1 (pc' := 393) (lv' := [(0, .ref v0), (2, .int v2), (3, .int z4)]) (st' := [.int v2]) rfl ?_
    refine x_cs1 (As := [.int v2]) (rest := []) Value.int e rfl rfl rfl rfl rfl (fun h => d_Y_isEmptyTag h ⟨rfl, rfl⟩) (fun z17 e => ?_)
    refine z_ne e rfl (fun e => ?_) (fun e => ?_)
    · refine wp_p (j := J_Y_startTag) 1 (pc' := 400) (lv' := [(0, .ref v0), (2, .int v2), (3, .int z4)]) (st' := [.ref v0]) rfl ?_
      refine x_gQ e rfl rfl fd_12_73 rfl (fun z18 e => ?_)
      refine wp_p (j := J_Y_startTag) 1 (pc' := 404) (lv' := [(0, .ref v0), (2, .int v2), (3, .int z4)]) (st' := [.ref v0, .ref z18]) rfl ?_
      refine x_gI e rfl rfl fd_12_74 rfl (fun z19 e => ?_)
      refine wp_p (j := J_Y_startTag) 1 (pc' := 408) (lv' := [(0, .ref v0), (2, .int v2), (3, .int z4)]) (st' := [.int z4, .int z19, .ref z18]) rfl ?_
      refine x_sI e rfl rfl (fun g20 e => ?_)
      refine wp_p (j := J_Y_startTag) 2 (pc' := 411) (lv' := [(0, .ref v0), (2, .int v2), (3, .int z4)]) (st' := [.ref v0, .ref v0]) rfl ?_
      refine x_gI e rfl rfl fd_12_74 rfl (fun z21 e => ?_)
      refine wp_p (j := J_Y_startTag) 2 (pc' := 416) (lv' := [(0, .ref v0), (2, .int v2), (3, .int z4)]) (st' := [.int (z21 + 1), .ref v0]) rfl ?_
      refine x_pI e rfl rfl fw_12_74 rfl (fun g22 e => ?_)
      have e := Option.some.inj e; subst e; exact wp_vret rfl rfl c
    · have e := Option.some.inj e; subst e; exact wp_vret rfl rfl c
noncomputable def k_Y_startTag_167 (v0 : Nat) (v1 : Int32) (v2 : Int32) (v3 : Int32) (g : g_S) : Option g_S :=
  if 0 < v3 then
    (rQ g 112 v0 73).bind fun z1 =>
    (aI g 0 z1 v3).bind fun z2 =>
    (vc g 112 v0 (M_Y_closeTo v0 v3 (-1) z2 g)).bind fun g3 =>
    (vc g3 112 v0 (M_Y_tellFault v0 5 v1 g3)).bind fun g4 =>
    k_Y_startTag_189 v0 v1 v2 g4
  else
    k_Y_startTag_189 v0 v1 v2 g
set_option maxRecDepth 20000 in
theorem x_Y_startTag_167 {L : Nat} {xs : Nat → Int32} {Q : Option Value → ab_H → Prop} {v0 : Nat} {v1 : Int32} {v2 : Int32} {v3 : Int32} {g : g_S} {out : g_S} (e : k_Y_startTag_167 v0 v1 v2 v3 g = some out) (c : Q none (hp out)) : wp (ab_ext L xs) J_Y_startTag 167 [(0, .ref v0), (1, .int v1), (2, .int v2), (3, .int v3)] [] (hp g) Q := by
  unfold k_Y_startTag_167 at e
  refine wp_p (j := J_Y_startTag) 1 (pc' := 168) (lv' := [(0, .ref v0), (1, .int v1), (2, .int v2), (3, .int v3)]) (st' := [.int v3]) rfl ?_
  refine z_le e rfl (fun e => ?_) (fun e => ?_)
  · refine wp_p (j := J_Y_startTag) 4 (pc' := 175) (lv' := [(0, .ref v0), (1, .int v1), (2, .int v2), (3, .int v3)]) (st' := [.ref v0, .int (-1), .int v3, .ref v0]) rfl ?_
    refine x_gQ e rfl rfl fd_12_73 rfl (fun z1 e => ?_)
    refine wp_p (j := J_Y_startTag) 1 (pc' := 179) (lv' := [(0, .ref v0), (1, .int v1), (2, .int v2), (3, .int v3)]) (st' := [.int v3, .ref z1, .int (-1), .int v3, .ref v0]) rfl ?_
    refine x_aI e rfl rfl (fun z2 e => ?_)
    refine x_cv0 (As := [.int v3, .int (-1), .int z2]) (rest := []) e rfl rfl rfl rfl rfl rfl (fun h => d_Y_closeTo h ⟨rfl, rfl⟩) (fun g3 e => ?_)
    refine wp_p (j := J_Y_startTag) 3 (pc' := 186) (lv' := [(0, .ref v0), (1, .int v1), (2, .int v2), (3, .int v3)]) (st' := [.int v1, .int 5, .ref v0]) rfl ?_
    refine x_cv0 (As := [.int 5, .int v1]) (rest := []) e rfl rfl rfl rfl rfl rfl (fun h => d_Y_tellFault h ⟨rfl, rfl⟩) (fun g4 e => ?_)
    exact wp_lv (lv' := [(0, .ref v0), (1, .int v1), (2, .int v2)]) rfl ⟨rfl, rfl, rfl, trivial⟩ (x_Y_startTag_189 e c)
  · exact wp_lv (lv' := [(0, .ref v0), (1, .int v1), (2, .int v2)]) rfl ⟨rfl, rfl, rfl, trivial⟩ (x_Y_startTag_189 e c)
noncomputable def k_Y_startTag_128 (v0 : Nat) (v1 : Int32) (v2 : Int32) (g : g_S) : Option g_S :=
  if v2 = 7 then
    (rI g 112 v0 74).bind fun z1 =>
    (L_Y_startTag_141 v0 v1 v2 (z1 - 1) g).bind <| fun z4 =>
    k_Y_startTag_167 v0 v1 v2 z4 g
  else
    k_Y_startTag_189 v0 v1 v2 g
set_option maxRecDepth 20000 in
theorem x_Y_startTag_128 {L : Nat} {xs : Nat → Int32} {Q : Option Value → ab_H → Prop} {v0 : Nat} {v1 : Int32} {v2 : Int32} {g : g_S} {out : g_S} (e : k_Y_startTag_128 v0 v1 v2 g = some out) (c : Q none (hp out)) : wp (ab_ext L xs) J_Y_startTag 128 [(0, .ref v0), (1, .int v1), (2, .int v2)] [] (hp g) Q := by
  unfold k_Y_startTag_128 at e
  refine wp_p (j := J_Y_startTag) 2 (pc' := 131) (lv' := [(0, .ref v0), (1, .int v1), (2, .int v2)]) (st' := [.int 7, .int v2]) rfl ?_
  refine x_ne e rfl (fun e => ?_) (fun e => ?_)
  · refine wp_p (j := J_Y_startTag) 1 (pc' := 135) (lv' := [(0, .ref v0), (1, .int v1), (2, .int v2)]) (st' := [.ref v0]) rfl ?_
    refine x_gI e rfl rfl fd_12_74 rfl (fun z1 e => ?_)
    refine wp_p (j := J_Y_startTag) 3 (pc' := 141) (lv' := [(3, .int (z1 - 1)), (0, .ref v0), (1, .int v1), (2, .int v2)]) (st' := []) rfl ?_
    obtain ⟨z4, h3, e⟩ := bd e
    refine wp_lv (lv' := [(0, .ref v0), (1, .int v1), (2, .int v2), (3, .int (z1 - 1))]) rfl ⟨rfl, rfl, rfl, rfl, trivial⟩ ?_
    refine l_Y_startTag_141 h3 ?_
    show wp (ab_ext L xs) J_Y_startTag 167 [(0, .ref v0), (1, .int v1), (2, .int v2), (3, .int z4)] [] (hp g) Q
    exact wp_lv (lv' := [(0, .ref v0), (1, .int v1), (2, .int v2), (3, .int z4)]) rfl ⟨rfl, rfl, rfl, rfl, trivial⟩ (x_Y_startTag_167 e c)
  · exact wp_lv (lv' := [(0, .ref v0), (1, .int v1), (2, .int v2)]) rfl ⟨rfl, rfl, rfl, trivial⟩ (x_Y_startTag_189 e c)
noncomputable def k_Y_startTag_102 (v0 : Nat) (v1 : Int32) (v2 : Int32) (v3 : Int32) (g : g_S) : Option g_S :=
  if 0 < v3 then
    (rQ g 112 v0 46).bind fun z1 =>
    (rQ g 112 v0 73).bind fun z2 =>
    (aI g 0 z2 v3).bind fun z3 =>
    (aI g 0 z1 z3).bind fun z4 =>
    if z4 = 4 then
      (vc g 112 v0 (M_Y_closeTo v0 v3 (-1) (-1) g)).bind fun g5 =>
      k_Y_startTag_128 v0 v1 v2 g5
    else
      k_Y_startTag_128 v0 v1 v2 g
  else
    k_Y_startTag_128 v0 v1 v2 g
set_option maxRecDepth 20000 in
theorem x_Y_startTag_102 {L : Nat} {xs : Nat → Int32} {Q : Option Value → ab_H → Prop} {v0 : Nat} {v1 : Int32} {v2 : Int32} {v3 : Int32} {g : g_S} {out : g_S} (e : k_Y_startTag_102 v0 v1 v2 v3 g = some out) (c : Q none (hp out)) : wp (ab_ext L xs) J_Y_startTag 102 [(0, .ref v0), (1, .int v1), (2, .int v2), (3, .int v3)] [] (hp g) Q := by
  unfold k_Y_startTag_102 at e
  refine wp_p (j := J_Y_startTag) 1 (pc' := 103) (lv' := [(0, .ref v0), (1, .int v1), (2, .int v2), (3, .int v3)]) (st' := [.int v3]) rfl ?_
  refine z_le e rfl (fun e => ?_) (fun e => ?_)
  · refine wp_p (j := J_Y_startTag) 1 (pc' := 107) (lv' := [(0, .ref v0), (1, .int v1), (2, .int v2), (3, .int v3)]) (st' := [.ref v0]) rfl ?_
    refine x_gQ e rfl rfl fd_12_46 rfl (fun z1 e => ?_)
    refine wp_p (j := J_Y_startTag) 1 (pc' := 111) (lv' := [(0, .ref v0), (1, .int v1), (2, .int v2), (3, .int v3)]) (st' := [.ref v0, .ref z1]) rfl ?_
    refine x_gQ e rfl rfl fd_12_73 rfl (fun z2 e => ?_)
    refine wp_p (j := J_Y_startTag) 1 (pc' := 115) (lv' := [(0, .ref v0), (1, .int v1), (2, .int v2), (3, .int v3)]) (st' := [.int v3, .ref z2, .ref z1]) rfl ?_
    refine x_aI e rfl rfl (fun z3 e => ?_)
    refine x_aI e rfl rfl (fun z4 e => ?_)
    refine wp_p (j := J_Y_startTag) 1 (pc' := 118) (lv' := [(0, .ref v0), (1, .int v1), (2, .int v2), (3, .int v3)]) (st' := [.int 4, .int z4]) rfl ?_
    refine x_ne e rfl (fun e => ?_) (fun e => ?_)
    · refine wp_p (j := J_Y_startTag) 4 (pc' := 125) (lv' := [(0, .ref v0), (1, .int v1), (2, .int v2), (3, .int v3)]) (st' := [.int (-1), .int (-1), .int v3, .ref v0]) rfl ?_
      refine x_cv0 (As := [.int v3, .int (-1), .int (-1)]) (rest := []) e rfl rfl rfl rfl rfl rfl (fun h => d_Y_closeTo h ⟨rfl, rfl⟩) (fun g5 e => ?_)
      exact wp_lv (lv' := [(0, .ref v0), (1, .int v1), (2, .int v2)]) rfl ⟨rfl, rfl, rfl, trivial⟩ (x_Y_startTag_128 e c)
    · exact wp_lv (lv' := [(0, .ref v0), (1, .int v1), (2, .int v2)]) rfl ⟨rfl, rfl, rfl, trivial⟩ (x_Y_startTag_128 e c)
  · exact wp_lv (lv' := [(0, .ref v0), (1, .int v1), (2, .int v2)]) rfl ⟨rfl, rfl, rfl, trivial⟩ (x_Y_startTag_128 e c)
noncomputable def k_Y_startTag_50 (v0 : Nat) (v1 : Int32) (v2 : Int32) (g : g_S) : Option g_S :=
  if v2 = 4 then
    (rI g 112 v0 74).bind fun z1 =>
    (L_Y_startTag_62 v0 v1 v2 (z1 - 1) g).bind <| fun z4 =>
    k_Y_startTag_102 v0 v1 v2 z4 g
  else
    k_Y_startTag_128 v0 v1 v2 g
set_option maxRecDepth 20000 in
theorem x_Y_startTag_50 {L : Nat} {xs : Nat → Int32} {Q : Option Value → ab_H → Prop} {v0 : Nat} {v1 : Int32} {v2 : Int32} {g : g_S} {out : g_S} (e : k_Y_startTag_50 v0 v1 v2 g = some out) (c : Q none (hp out)) : wp (ab_ext L xs) J_Y_startTag 50 [(0, .ref v0), (1, .int v1), (2, .int v2)] [] (hp g) Q := by
  unfold k_Y_startTag_50 at e
  refine wp_p (j := J_Y_startTag) 2 (pc' := 52) (lv' := [(0, .ref v0), (1, .int v1), (2, .int v2)]) (st' := [.int 4, .int v2]) rfl ?_
  refine x_ne e rfl (fun e => ?_) (fun e => ?_)
  · refine wp_p (j := J_Y_startTag) 1 (pc' := 56) (lv' := [(0, .ref v0), (1, .int v1), (2, .int v2)]) (st' := [.ref v0]) rfl ?_
    refine x_gI e rfl rfl fd_12_74 rfl (fun z1 e => ?_)
    refine wp_p (j := J_Y_startTag) 3 (pc' := 62) (lv' := [(3, .int (z1 - 1)), (0, .ref v0), (1, .int v1), (2, .int v2)]) (st' := []) rfl ?_
    obtain ⟨z4, h3, e⟩ := bd e
    refine wp_lv (lv' := [(0, .ref v0), (1, .int v1), (2, .int v2), (3, .int (z1 - 1))]) rfl ⟨rfl, rfl, rfl, rfl, trivial⟩ ?_
    refine l_Y_startTag_62 h3 ?_
    show wp (ab_ext L xs) J_Y_startTag 102 [(0, .ref v0), (1, .int v1), (2, .int v2), (3, .int z4)] [] (hp g) Q
    exact wp_lv (lv' := [(0, .ref v0), (1, .int v1), (2, .int v2), (3, .int z4)]) rfl ⟨rfl, rfl, rfl, rfl, trivial⟩ (x_Y_startTag_102 e c)
  · exact wp_lv (lv' := [(0, .ref v0), (1, .int v1), (2, .int v2)]) rfl ⟨rfl, rfl, rfl, trivial⟩ (x_Y_startTag_128 e c)
noncomputable def k_Y_startTag_39 (v0 : Nat) (v1 : Int32) (v2 : Int32) (v3 : Int32) (g : g_S) : Option g_S :=
  if 0 < v3 then
    (vc g 112 v0 (M_Y_closeTo v0 v3 (-1) (-1) g)).bind fun g1 =>
    k_Y_startTag_50 v0 v1 v2 g1
  else
    k_Y_startTag_50 v0 v1 v2 g
set_option maxRecDepth 20000 in
theorem x_Y_startTag_39 {L : Nat} {xs : Nat → Int32} {Q : Option Value → ab_H → Prop} {v0 : Nat} {v1 : Int32} {v2 : Int32} {v3 : Int32} {g : g_S} {out : g_S} (e : k_Y_startTag_39 v0 v1 v2 v3 g = some out) (c : Q none (hp out)) : wp (ab_ext L xs) J_Y_startTag 39 [(0, .ref v0), (1, .int v1), (2, .int v2), (3, .int v3)] [] (hp g) Q := by
  unfold k_Y_startTag_39 at e
  refine wp_p (j := J_Y_startTag) 1 (pc' := 40) (lv' := [(0, .ref v0), (1, .int v1), (2, .int v2), (3, .int v3)]) (st' := [.int v3]) rfl ?_
  refine z_le e rfl (fun e => ?_) (fun e => ?_)
  · refine wp_p (j := J_Y_startTag) 4 (pc' := 47) (lv' := [(0, .ref v0), (1, .int v1), (2, .int v2), (3, .int v3)]) (st' := [.int (-1), .int (-1), .int v3, .ref v0]) rfl ?_
    refine x_cv0 (As := [.int v3, .int (-1), .int (-1)]) (rest := []) e rfl rfl rfl rfl rfl rfl (fun h => d_Y_closeTo h ⟨rfl, rfl⟩) (fun g1 e => ?_)
    exact wp_lv (lv' := [(0, .ref v0), (1, .int v1), (2, .int v2)]) rfl ⟨rfl, rfl, rfl, trivial⟩ (x_Y_startTag_50 e c)
  · exact wp_lv (lv' := [(0, .ref v0), (1, .int v1), (2, .int v2)]) rfl ⟨rfl, rfl, rfl, trivial⟩ (x_Y_startTag_50 e c)
noncomputable def M_Y_startTag (v0 : Nat) (v1 : Int32) (v2 : Int32) (g : g_S) : Option g_S :=
  (M_Y_isBlockTag v2 g).bind fun z1 =>
  if z1 = 0 then
    k_Y_startTag_50 v0 v1 v2 g
  else
    (rI g 112 v0 74).bind fun z2 =>
    (L_Y_startTag_14 v0 v1 v2 (z2 - 1) g).bind <| fun z5 =>
    k_Y_startTag_39 v0 v1 v2 z5 g
set_option maxRecDepth 20000 in
theorem d_Y_startTag {L : Nat} {xs : Nat → Int32} {Q : Option Value → ab_H → Prop} {v0 : Nat} {v1 : Int32} {v2 : Int32} {g : g_S} {out : g_S} (e : M_Y_startTag v0 v1 v2 g = some out) (c : Q none (hp out)) : mw (ab_ext L xs) J_Y_startTag [.ref v0, .int v1, .int v2] (hp g) Q := by
  unfold M_Y_startTag at e
  refine wp_p (j := J_Y_startTag) 1 (pc' := 1) (lv' := [(0, .ref v0), (1, .int v1), (2, .int v2)]) (st' := [.int v2]) rfl ?_
  refine x_cs1 (As := [.int v2]) (rest := []) Value.int e rfl rfl rfl rfl rfl (fun h => d_Y_isBlockTag h ⟨rfl, rfl⟩) (fun z1 e => ?_)
  refine z_eq e rfl (fun e => ?_) (fun e => ?_)
  · exact wp_lv (lv' := [(0, .ref v0), (1, .int v1), (2, .int v2)]) rfl ⟨rfl, rfl, rfl, trivial⟩ (x_Y_startTag_50 e c)
  · refine wp_p (j := J_Y_startTag) 1 (pc' := 8) (lv' := [(0, .ref v0), (1, .int v1), (2, .int v2)]) (st' := [.ref v0]) rfl ?_
    refine x_gI e rfl rfl fd_12_74 rfl (fun z2 e => ?_)
    refine wp_p (j := J_Y_startTag) 3 (pc' := 14) (lv' := [(3, .int (z2 - 1)), (0, .ref v0), (1, .int v1), (2, .int v2)]) (st' := []) rfl ?_
    obtain ⟨z5, h4, e⟩ := bd e
    refine wp_lv (lv' := [(0, .ref v0), (1, .int v1), (2, .int v2), (3, .int (z2 - 1))]) rfl ⟨rfl, rfl, rfl, rfl, trivial⟩ ?_
    refine l_Y_startTag_14 h4 ?_
    show wp (ab_ext L xs) J_Y_startTag 39 [(0, .ref v0), (1, .int v1), (2, .int v2), (3, .int z5)] [] (hp g) Q
    exact wp_lv (lv' := [(0, .ref v0), (1, .int v1), (2, .int v2), (3, .int z5)]) rfl ⟨rfl, rfl, rfl, rfl, trivial⟩ (x_Y_startTag_39 e c)
def cL_Y_readTag_259 (L : Nat) (xs : Nat → Int32) (Q : Option Value → ab_H → Prop) (v0 : Nat) (v1 : Int32) (v3 : Int32) (v5 : Int32) (out : (Int32 × g_S) ⊕ (g_S)) : Prop := match out with
  | .inl s => wp (ab_ext L xs) J_Y_readTag 259 [(0, .ref v0), (1, .int v1), (3, .int v3), (5, .int v5), (6, .int s.1)] [] (hp s.2) Q
  | .inr s => wp (ab_ext L xs) J_Y_readTag 286 [(0, .ref v0), (1, .int v1), (3, .int v3), (5, .int v5)] [] (hp s) Q
noncomputable def b_Y_readTag_259 (v0 : Nat) (v1 : Int32) (v3 : Int32) (v5 : Int32) (v6 : Int32) (g : g_S) : Option ((Int32 × g_S) ⊕ (g_S)) :=
  (rI g 112 v0 85).bind fun z1 =>
  if v6 < z1 then
    (rQ g 112 v0 86).bind fun z2 =>
    (aI g 0 z2 v6).bind fun z3 =>
    (vc g 112 v0 (M_Y_tellFault v0 2 z3 g)).bind fun g4 =>
    some (.inl (v6 + 1, g4))
  else
    some (.inr g)
set_option maxRecDepth 20000 in
theorem y_Y_readTag_259 {L : Nat} {xs : Nat → Int32} {Q : Option Value → ab_H → Prop} {v0 : Nat} {v1 : Int32} {v3 : Int32} {v5 : Int32} {v6 : Int32} {g : g_S} {out : (Int32 × g_S) ⊕ (g_S)} (e : b_Y_readTag_259 v0 v1 v3 v5 v6 g = some out) (c : cL_Y_readTag_259 L xs Q v0 v1 v3 v5 out) : wp (ab_ext L xs) J_Y_readTag 259 [(0, .ref v0), (1, .int v1), (3, .int v3), (5, .int v5), (6, .int v6)] [] (hp g) Q := by
  unfold b_Y_readTag_259 at e
  refine wp_p (j := J_Y_readTag) 2 (pc' := 262) (lv' := [(0, .ref v0), (1, .int v1), (3, .int v3), (5, .int v5), (6, .int v6)]) (st' := [.ref v0, .int v6]) rfl ?_
  refine x_gI e rfl rfl fd_12_85 rfl (fun z1 e => ?_)
  refine x_ge e rfl (fun e => ?_) (fun e => ?_)
  · refine wp_p (j := J_Y_readTag) 3 (pc' := 271) (lv' := [(0, .ref v0), (1, .int v1), (3, .int v3), (5, .int v5), (6, .int v6)]) (st' := [.ref v0, .int 2, .ref v0]) rfl ?_
    refine x_gQ e rfl rfl fd_12_86 rfl (fun z2 e => ?_)
    refine wp_p (j := J_Y_readTag) 1 (pc' := 276) (lv' := [(0, .ref v0), (1, .int v1), (3, .int v3), (5, .int v5), (6, .int v6)]) (st' := [.int v6, .ref z2, .int 2, .ref v0]) rfl ?_
    refine x_aI e rfl rfl (fun z3 e => ?_)
    refine x_cv0 (As := [.int 2, .int z3]) (rest := []) e rfl rfl rfl rfl rfl rfl (fun h => d_Y_tellFault h ⟨rfl, rfl⟩) (fun g4 e => ?_)
    refine wp_p (j := J_Y_readTag) 2 (pc' := 259) (lv' := [(6, .int (v6 + 1)), (0, .ref v0), (1, .int v1), (3, .int v3), (5, .int v5)]) (st' := []) rfl ?_
    have e := Option.some.inj e; subst e; exact wp_lv (lv' := [(0, .ref v0), (1, .int v1), (3, .int v3), (5, .int v5), (6, .int (v6 + 1))]) rfl ⟨rfl, rfl, rfl, rfl, rfl, trivial⟩ c
  · have e := Option.some.inj e; subst e; exact wp_lv (lv' := [(0, .ref v0), (1, .int v1), (3, .int v3), (5, .int v5)]) rfl ⟨rfl, rfl, rfl, rfl, trivial⟩ c
noncomputable def L_Y_readTag_259 (v0 : Nat) (v1 : Int32) (v3 : Int32) (v5 : Int32) (v6 : Int32) (g : g_S) : Option (g_S) := it (fun s : Int32 × g_S => b_Y_readTag_259 v0 v1 v3 v5 s.1 s.2) (v6, g)
theorem l_Y_readTag_259 {L : Nat} {xs : Nat → Int32} {Q : Option Value → ab_H → Prop} {v0 : Nat} {v1 : Int32} {v3 : Int32} {v5 : Int32} {v6 : Int32} {g : g_S} {r : g_S} (e : L_Y_readTag_259 v0 v1 v3 v5 v6 g = some r) (c : cL_Y_readTag_259 L xs Q v0 v1 v3 v5 (.inr r)) : wp (ab_ext L xs) J_Y_readTag 259 [(0, .ref v0), (1, .int v1), (3, .int v3), (5, .int v5), (6, .int v6)] [] (hp g) Q :=
  it_wp (P := fun s : Int32 × g_S => wp (ab_ext L xs) J_Y_readTag 259 [(0, .ref v0), (1, .int v1), (3, .int v3), (5, .int v5), (6, .int s.1)] [] (hp s.2) Q) (E := fun r => cL_Y_readTag_259 L xs Q v0 v1 v3 v5 (.inr r)) (fun s out e c => y_Y_readTag_259 e (by cases out <;> exact c)) e c
theorem L_Y_readTag_259_eq (v0 : Nat) (v1 : Int32) (v3 : Int32) (v5 : Int32) (v6 : Int32) (g : g_S) : L_Y_readTag_259 v0 v1 v3 v5 v6 g = itc (b_Y_readTag_259 v0 v1 v3 v5 v6 g) (fun s => L_Y_readTag_259 v0 v1 v3 v5 s.1 s.2) := it_eq2 (fun s : Int32 × g_S => b_Y_readTag_259 v0 v1 v3 v5 s.1 s.2) (v6, g)
def cL_Y_readTag_132 (L : Nat) (xs : Nat → Int32) (Q : Option Value → ab_H → Prop) (v0 : Nat) (v1 : Int32) (v2 : Int32) (g : g_S) (out : (Int32) ⊕ (Int32)) : Prop := match out with
  | .inl s => wp (ab_ext L xs) J_Y_readTag 132 [(0, .ref v0), (1, .int v1), (2, .int v2), (3, .int s)] [] (hp g) Q
  | .inr s => wp (ab_ext L xs) J_Y_readTag 169 [(0, .ref v0), (1, .int v1), (2, .int v2), (3, .int s)] [] (hp g) Q
noncomputable def b_Y_readTag_132 (v0 : Nat) (v1 : Int32) (v2 : Int32) (v3 : Int32) (g : g_S) : Option ((Int32) ⊕ (Int32)) :=
  (rI g 112 v0 76).bind fun z1 =>
  if v3 < z1 then
    (rQ g 112 v0 75).bind fun z2 =>
    (aI g 1 z2 v3).bind fun z3 =>
    (M_Y_isBlank z3 g).bind fun z4 =>
    if z4 = 0 then
      (rQ g 112 v0 75).bind fun z5 =>
      (aI g 1 z5 v3).bind fun z6 =>
      if z6 = 47 then
        some (.inl (v3 + 1))
      else
        some (.inr v3)
    else
      some (.inl (v3 + 1))
  else
    some (.inr v3)
set_option maxRecDepth 20000 in
theorem y_Y_readTag_132 {L : Nat} {xs : Nat → Int32} {Q : Option Value → ab_H → Prop} {v0 : Nat} {v1 : Int32} {v2 : Int32} {v3 : Int32} {g : g_S} {out : (Int32) ⊕ (Int32)} (e : b_Y_readTag_132 v0 v1 v2 v3 g = some out) (c : cL_Y_readTag_132 L xs Q v0 v1 v2 g out) : wp (ab_ext L xs) J_Y_readTag 132 [(0, .ref v0), (1, .int v1), (2, .int v2), (3, .int v3)] [] (hp g) Q := by
  unfold b_Y_readTag_132 at e
  refine wp_p (j := J_Y_readTag) 2 (pc' := 134) (lv' := [(0, .ref v0), (1, .int v1), (2, .int v2), (3, .int v3)]) (st' := [.ref v0, .int v3]) rfl ?_
  refine x_gI e rfl rfl fd_12_76 rfl (fun z1 e => ?_)
  refine x_ge e rfl (fun e => ?_) (fun e => ?_)
  · refine wp_p (j := J_Y_readTag) 1 (pc' := 141) (lv' := [(0, .ref v0), (1, .int v1), (2, .int v2), (3, .int v3)]) (st' := [.ref v0]) rfl ?_
    refine x_gQ e rfl rfl fd_12_75 rfl (fun z2 e => ?_)
    refine wp_p (j := J_Y_readTag) 1 (pc' := 145) (lv' := [(0, .ref v0), (1, .int v1), (2, .int v2), (3, .int v3)]) (st' := [.int v3, .ref z2]) rfl ?_
    refine x_aB e rfl (.inl rfl) rfl (fun z3 e => ?_)
    refine x_cs1 (As := [.int z3]) (rest := []) Value.int e rfl rfl rfl rfl rfl (fun h => d_Y_isBlank h ⟨rfl, rfl⟩) (fun z4 e => ?_)
    refine z_ne e rfl (fun e => ?_) (fun e => ?_)
    · refine wp_p (j := J_Y_readTag) 1 (pc' := 153) (lv' := [(0, .ref v0), (1, .int v1), (2, .int v2), (3, .int v3)]) (st' := [.ref v0]) rfl ?_
      refine x_gQ e rfl rfl fd_12_75 rfl (fun z5 e => ?_)
      refine wp_p (j := J_Y_readTag) 1 (pc' := 157) (lv' := [(0, .ref v0), (1, .int v1), (2, .int v2), (3, .int v3)]) (st' := [.int v3, .ref z5]) rfl ?_
      refine x_aB e rfl (.inl rfl) rfl (fun z6 e => ?_)
      refine wp_p (j := J_Y_readTag) 1 (pc' := 160) (lv' := [(0, .ref v0), (1, .int v1), (2, .int v2), (3, .int v3)]) (st' := [.int 47, .int z6]) rfl ?_
      refine x_ne e rfl (fun e => ?_) (fun e => ?_)
      · refine wp_p (j := J_Y_readTag) 2 (pc' := 132) (lv' := [(3, .int (v3 + 1)), (0, .ref v0), (1, .int v1), (2, .int v2)]) (st' := []) rfl ?_
        have e := Option.some.inj e; subst e; exact wp_lv (lv' := [(0, .ref v0), (1, .int v1), (2, .int v2), (3, .int (v3 + 1))]) rfl ⟨rfl, rfl, rfl, rfl, trivial⟩ c
      · have e := Option.some.inj e; subst e; exact wp_lv (lv' := [(0, .ref v0), (1, .int v1), (2, .int v2), (3, .int v3)]) rfl ⟨rfl, rfl, rfl, rfl, trivial⟩ c
    · refine wp_p (j := J_Y_readTag) 2 (pc' := 132) (lv' := [(3, .int (v3 + 1)), (0, .ref v0), (1, .int v1), (2, .int v2)]) (st' := []) rfl ?_
      have e := Option.some.inj e; subst e; exact wp_lv (lv' := [(0, .ref v0), (1, .int v1), (2, .int v2), (3, .int (v3 + 1))]) rfl ⟨rfl, rfl, rfl, rfl, trivial⟩ c
  · have e := Option.some.inj e; subst e; exact wp_lv (lv' := [(0, .ref v0), (1, .int v1), (2, .int v2), (3, .int v3)]) rfl ⟨rfl, rfl, rfl, rfl, trivial⟩ c
noncomputable def L_Y_readTag_132 (v0 : Nat) (v1 : Int32) (v2 : Int32) (v3 : Int32) (g : g_S) : Option (Int32) := it (fun s : Int32 => b_Y_readTag_132 v0 v1 v2 s g) (v3)
theorem l_Y_readTag_132 {L : Nat} {xs : Nat → Int32} {Q : Option Value → ab_H → Prop} {v0 : Nat} {v1 : Int32} {v2 : Int32} {v3 : Int32} {g : g_S} {r : Int32} (e : L_Y_readTag_132 v0 v1 v2 v3 g = some r) (c : cL_Y_readTag_132 L xs Q v0 v1 v2 g (.inr r)) : wp (ab_ext L xs) J_Y_readTag 132 [(0, .ref v0), (1, .int v1), (2, .int v2), (3, .int v3)] [] (hp g) Q :=
  it_wp (P := fun s : Int32 => wp (ab_ext L xs) J_Y_readTag 132 [(0, .ref v0), (1, .int v1), (2, .int v2), (3, .int s)] [] (hp g) Q) (E := fun r => cL_Y_readTag_132 L xs Q v0 v1 v2 g (.inr r)) (fun s out e c => y_Y_readTag_132 e (by cases out <;> exact c)) e c
theorem L_Y_readTag_132_eq (v0 : Nat) (v1 : Int32) (v2 : Int32) (v3 : Int32) (g : g_S) : L_Y_readTag_132 v0 v1 v2 v3 g = itc (b_Y_readTag_132 v0 v1 v2 v3 g) (fun s => L_Y_readTag_132 v0 v1 v2 s g) := it_eq2 (fun s : Int32 => b_Y_readTag_132 v0 v1 v2 s g) (v3)
def cL_Y_readTag_38 (L : Nat) (xs : Nat → Int32) (Q : Option Value → ab_H → Prop) (v0 : Nat) (v1 : Int32) (v2 : Int32) (out : (Int32 × g_S) ⊕ (Int32 × g_S)) : Prop := match out with
  | .inl s => wp (ab_ext L xs) J_Y_readTag 38 [(0, .ref v0), (1, .int v1), (2, .int v2), (3, .int s.1)] [] (hp s.2) Q
  | .inr s => wp (ab_ext L xs) J_Y_readTag 114 [(0, .ref v0), (1, .int v1), (2, .int v2), (3, .int s.1)] [] (hp s.2) Q
noncomputable def k_Y_readTag_70 (v0 : Nat) (v1 : Int32) (v2 : Int32) (v3 : Int32) (g : g_S) : Option ((Int32 × g_S) ⊕ (Int32 × g_S)) :=
  (rI g 112 v0 79).bind fun z1 =>
  if z1 < 8 then
    (rQ g 112 v0 78).bind fun z2 =>
    (rI g 112 v0 79).bind fun z3 =>
    (rQ g 112 v0 75).bind fun z4 =>
    (aI g 1 z4 v3).bind fun z5 =>
    (M_Y_small z5 g).bind fun z6 =>
    (sB g z2 z3 ((Int32.toInt8 z6).toInt32)).bind fun g7 =>
    (rI g7 112 v0 79).bind fun z8 =>
    (wI g7 112 v0 79 (z8 + 1)).bind fun g9 =>
    some (.inl (v3 + 1, g9))
  else
    some (.inl (v3 + 1, g))
set_option maxRecDepth 20000 in
theorem x_Y_readTag_70 {L : Nat} {xs : Nat → Int32} {Q : Option Value → ab_H → Prop} {v0 : Nat} {v1 : Int32} {v2 : Int32} {v3 : Int32} {g : g_S} {out : (Int32 × g_S) ⊕ (Int32 × g_S)} (e : k_Y_readTag_70 v0 v1 v2 v3 g = some out) (c : cL_Y_readTag_38 L xs Q v0 v1 v2 out) : wp (ab_ext L xs) J_Y_readTag 70 [(0, .ref v0), (1, .int v1), (2, .int v2), (3, .int v3)] [] (hp g) Q := by
  unfold k_Y_readTag_70 at e
  refine wp_p (j := J_Y_readTag) 1 (pc' := 71) (lv' := [(0, .ref v0), (1, .int v1), (2, .int v2), (3, .int v3)]) (st' := [.ref v0]) rfl ?_
  refine x_gI e rfl rfl fd_12_79 rfl (fun z1 e => ?_)
  refine wp_p (j := J_Y_readTag) 1 (pc' := 76) (lv' := [(0, .ref v0), (1, .int v1), (2, .int v2), (3, .int v3)]) (st' := [.int 8, .int z1]) rfl ?_
  refine x_ge e rfl (fun e => ?_) (fun e => ?_)
  · refine wp_p (j := J_Y_readTag) 1 (pc' := 80) (lv' := [(0, .ref v0), (1, .int v1), (2, .int v2), (3, .int v3)]) (st' := [.ref v0]) rfl ?_
    refine x_gQ e rfl rfl fd_12_78 rfl (fun z2 e => ?_)
    refine wp_p (j := J_Y_readTag) 1 (pc' := 84) (lv' := [(0, .ref v0), (1, .int v1), (2, .int v2), (3, .int v3)]) (st' := [.ref v0, .ref z2]) rfl ?_
    refine x_gI e rfl rfl fd_12_79 rfl (fun z3 e => ?_)
    refine wp_p (j := J_Y_readTag) 1 (pc' := 88) (lv' := [(0, .ref v0), (1, .int v1), (2, .int v2), (3, .int v3)]) (st' := [.ref v0, .int z3, .ref z2]) rfl ?_
    refine x_gQ e rfl rfl fd_12_75 rfl (fun z4 e => ?_)
    refine wp_p (j := J_Y_readTag) 1 (pc' := 92) (lv' := [(0, .ref v0), (1, .int v1), (2, .int v2), (3, .int v3)]) (st' := [.int v3, .ref z4, .int z3, .ref z2]) rfl ?_
    refine x_aB e rfl (.inl rfl) rfl (fun z5 e => ?_)
    refine x_cs1 (As := [.int z5]) (rest := [.int z3, .ref z2]) Value.int e rfl rfl rfl rfl rfl (fun h => d_Y_small h ⟨rfl, rfl⟩) (fun z6 e => ?_)
    refine wp_p (j := J_Y_readTag) 1 (pc' := 97) (lv' := [(0, .ref v0), (1, .int v1), (2, .int v2), (3, .int v3)]) (st' := [.int ((Int32.toInt8 z6).toInt32), .int z3, .ref z2]) rfl ?_
    refine x_sB e rfl rfl (fun g7 e => ?_)
    refine wp_p (j := J_Y_readTag) 2 (pc' := 100) (lv' := [(0, .ref v0), (1, .int v1), (2, .int v2), (3, .int v3)]) (st' := [.ref v0, .ref v0]) rfl ?_
    refine x_gI e rfl rfl fd_12_79 rfl (fun z8 e => ?_)
    refine wp_p (j := J_Y_readTag) 2 (pc' := 105) (lv' := [(0, .ref v0), (1, .int v1), (2, .int v2), (3, .int v3)]) (st' := [.int (z8 + 1), .ref v0]) rfl ?_
    refine x_pI e rfl rfl fw_12_79 rfl (fun g9 e => ?_)
    refine wp_p (j := J_Y_readTag) 2 (pc' := 38) (lv' := [(3, .int (v3 + 1)), (0, .ref v0), (1, .int v1), (2, .int v2)]) (st' := []) rfl ?_
    have e := Option.some.inj e; subst e; exact wp_lv (lv' := [(0, .ref v0), (1, .int v1), (2, .int v2), (3, .int (v3 + 1))]) rfl ⟨rfl, rfl, rfl, rfl, trivial⟩ c
  · refine wp_p (j := J_Y_readTag) 2 (pc' := 38) (lv' := [(3, .int (v3 + 1)), (0, .ref v0), (1, .int v1), (2, .int v2)]) (st' := []) rfl ?_
    have e := Option.some.inj e; subst e; exact wp_lv (lv' := [(0, .ref v0), (1, .int v1), (2, .int v2), (3, .int (v3 + 1))]) rfl ⟨rfl, rfl, rfl, rfl, trivial⟩ c
noncomputable def b_Y_readTag_38 (v0 : Nat) (v1 : Int32) (v2 : Int32) (v3 : Int32) (g : g_S) : Option ((Int32 × g_S) ⊕ (Int32 × g_S)) :=
  (rI g 112 v0 76).bind fun z1 =>
  if v3 < z1 then
    (rQ g 112 v0 75).bind fun z2 =>
    (aI g 1 z2 v3).bind fun z3 =>
    (M_Y_isLetter z3 g).bind fun z4 =>
    if z4 = 0 then
      (rQ g 112 v0 75).bind fun z5 =>
      (aI g 1 z5 v3).bind fun z6 =>
      (M_Y_isDigit z6 g).bind fun z7 =>
      if z7 = 0 then
        some (.inr (v3, g))
      else
        k_Y_readTag_70 v0 v1 v2 v3 g
    else
      k_Y_readTag_70 v0 v1 v2 v3 g
  else
    some (.inr (v3, g))
set_option maxRecDepth 20000 in
theorem y_Y_readTag_38 {L : Nat} {xs : Nat → Int32} {Q : Option Value → ab_H → Prop} {v0 : Nat} {v1 : Int32} {v2 : Int32} {v3 : Int32} {g : g_S} {out : (Int32 × g_S) ⊕ (Int32 × g_S)} (e : b_Y_readTag_38 v0 v1 v2 v3 g = some out) (c : cL_Y_readTag_38 L xs Q v0 v1 v2 out) : wp (ab_ext L xs) J_Y_readTag 38 [(0, .ref v0), (1, .int v1), (2, .int v2), (3, .int v3)] [] (hp g) Q := by
  unfold b_Y_readTag_38 at e
  refine wp_p (j := J_Y_readTag) 2 (pc' := 40) (lv' := [(0, .ref v0), (1, .int v1), (2, .int v2), (3, .int v3)]) (st' := [.ref v0, .int v3]) rfl ?_
  refine x_gI e rfl rfl fd_12_76 rfl (fun z1 e => ?_)
  refine x_ge e rfl (fun e => ?_) (fun e => ?_)
  · refine wp_p (j := J_Y_readTag) 1 (pc' := 47) (lv' := [(0, .ref v0), (1, .int v1), (2, .int v2), (3, .int v3)]) (st' := [.ref v0]) rfl ?_
    refine x_gQ e rfl rfl fd_12_75 rfl (fun z2 e => ?_)
    refine wp_p (j := J_Y_readTag) 1 (pc' := 51) (lv' := [(0, .ref v0), (1, .int v1), (2, .int v2), (3, .int v3)]) (st' := [.int v3, .ref z2]) rfl ?_
    refine x_aB e rfl (.inl rfl) rfl (fun z3 e => ?_)
    refine x_cs1 (As := [.int z3]) (rest := []) Value.int e rfl rfl rfl rfl rfl (fun h => d_Y_isLetter h ⟨rfl, rfl⟩) (fun z4 e => ?_)
    refine z_ne e rfl (fun e => ?_) (fun e => ?_)
    · refine wp_p (j := J_Y_readTag) 1 (pc' := 59) (lv' := [(0, .ref v0), (1, .int v1), (2, .int v2), (3, .int v3)]) (st' := [.ref v0]) rfl ?_
      refine x_gQ e rfl rfl fd_12_75 rfl (fun z5 e => ?_)
      refine wp_p (j := J_Y_readTag) 1 (pc' := 63) (lv' := [(0, .ref v0), (1, .int v1), (2, .int v2), (3, .int v3)]) (st' := [.int v3, .ref z5]) rfl ?_
      refine x_aB e rfl (.inl rfl) rfl (fun z6 e => ?_)
      refine x_cs1 (As := [.int z6]) (rest := []) Value.int e rfl rfl rfl rfl rfl (fun h => d_Y_isDigit h ⟨rfl, rfl⟩) (fun z7 e => ?_)
      refine z_eq e rfl (fun e => ?_) (fun e => ?_)
      · have e := Option.some.inj e; subst e; exact wp_lv (lv' := [(0, .ref v0), (1, .int v1), (2, .int v2), (3, .int v3)]) rfl ⟨rfl, rfl, rfl, rfl, trivial⟩ c
      · exact wp_lv (lv' := [(0, .ref v0), (1, .int v1), (2, .int v2), (3, .int v3)]) rfl ⟨rfl, rfl, rfl, rfl, trivial⟩ (x_Y_readTag_70 e c)
    · exact wp_lv (lv' := [(0, .ref v0), (1, .int v1), (2, .int v2), (3, .int v3)]) rfl ⟨rfl, rfl, rfl, rfl, trivial⟩ (x_Y_readTag_70 e c)
  · have e := Option.some.inj e; subst e; exact wp_lv (lv' := [(0, .ref v0), (1, .int v1), (2, .int v2), (3, .int v3)]) rfl ⟨rfl, rfl, rfl, rfl, trivial⟩ c
noncomputable def L_Y_readTag_38 (v0 : Nat) (v1 : Int32) (v2 : Int32) (v3 : Int32) (g : g_S) : Option (Int32 × g_S) := it (fun s : Int32 × g_S => b_Y_readTag_38 v0 v1 v2 s.1 s.2) (v3, g)
theorem l_Y_readTag_38 {L : Nat} {xs : Nat → Int32} {Q : Option Value → ab_H → Prop} {v0 : Nat} {v1 : Int32} {v2 : Int32} {v3 : Int32} {g : g_S} {r : Int32 × g_S} (e : L_Y_readTag_38 v0 v1 v2 v3 g = some r) (c : cL_Y_readTag_38 L xs Q v0 v1 v2 (.inr r)) : wp (ab_ext L xs) J_Y_readTag 38 [(0, .ref v0), (1, .int v1), (2, .int v2), (3, .int v3)] [] (hp g) Q :=
  it_wp (P := fun s : Int32 × g_S => wp (ab_ext L xs) J_Y_readTag 38 [(0, .ref v0), (1, .int v1), (2, .int v2), (3, .int s.1)] [] (hp s.2) Q) (E := fun r => cL_Y_readTag_38 L xs Q v0 v1 v2 (.inr r)) (fun s out e c => y_Y_readTag_38 e (by cases out <;> exact c)) e c
theorem L_Y_readTag_38_eq (v0 : Nat) (v1 : Int32) (v2 : Int32) (v3 : Int32) (g : g_S) : L_Y_readTag_38 v0 v1 v2 v3 g = itc (b_Y_readTag_38 v0 v1 v2 v3 g) (fun s => L_Y_readTag_38 v0 v1 v2 s.1 s.2) := it_eq2 (fun s : Int32 × g_S => b_Y_readTag_38 v0 v1 v2 s.1 s.2) (v3, g)
def cL_Y_readTag_127 (L : Nat) (xs : Nat → Int32) (Q : Option Value → ab_H → Prop) (v0 : Nat) (v1 : Int32) (v2 : Int32) (out : (Int32 × Int32 × g_S) ⊕ (Int32 × g_S)) : Prop := match out with
  | .inl s => wp (ab_ext L xs) J_Y_readTag 127 [(0, .ref v0), (1, .int v1), (2, .int v2), (3, .int s.1), (4, .int s.2.1)] [] (hp s.2.2) Q
  | .inr s => wp (ab_ext L xs) J_Y_readTag 209 [(0, .ref v0), (1, .int v1), (2, .int v2), (3, .int s.1)] [] (hp s.2) Q
noncomputable def k_Y_readTag_193 (v0 : Nat) (v1 : Int32) (v2 : Int32) (v3 : Int32) (w0 : Int32) (g : g_S) : Option ((Int32 × Int32 × g_S) ⊕ (Int32 × g_S)) :=
  if w0 = 0 then
    some (.inl (v3, w0, g))
  else
    c2 (vc g 112 v0 (M_Y_readAttribute v0 v3 g)) fun z1 g2 =>
    some (.inl (z1, w0, g2))
set_option maxRecDepth 20000 in
theorem x_Y_readTag_193 {L : Nat} {xs : Nat → Int32} {Q : Option Value → ab_H → Prop} {v0 : Nat} {v1 : Int32} {v2 : Int32} {v3 : Int32} {w0 : Int32} {g : g_S} {out : (Int32 × Int32 × g_S) ⊕ (Int32 × g_S)} (e : k_Y_readTag_193 v0 v1 v2 v3 w0 g = some out) (c : cL_Y_readTag_127 L xs Q v0 v1 v2 out) : wp (ab_ext L xs) J_Y_readTag 193 [(0, .ref v0), (1, .int v1), (2, .int v2), (3, .int v3)] [.int w0] (hp g) Q := by
  unfold k_Y_readTag_193 at e
  refine wp_p (j := J_Y_readTag) 2 (pc' := 197) (lv' := [(4, .int w0), (0, .ref v0), (1, .int v1), (2, .int v2), (3, .int v3)]) (st' := [.int w0]) rfl ?_
  refine z_eq e rfl (fun e => ?_) (fun e => ?_)
  · have e := Option.some.inj e; subst e; exact wp_lv (lv' := [(0, .ref v0), (1, .int v1), (2, .int v2), (3, .int v3), (4, .int w0)]) rfl ⟨rfl, rfl, rfl, rfl, rfl, trivial⟩ c
  · refine wp_p (j := J_Y_readTag) 2 (pc' := 202) (lv' := [(4, .int w0), (0, .ref v0), (1, .int v1), (2, .int v2), (3, .int v3)]) (st' := [.int v3, .ref v0]) rfl ?_
    refine x_cv2 (As := [.int v3]) (rest := []) Value.int e rfl rfl rfl rfl rfl rfl (fun h => d_Y_readAttribute h ⟨rfl, rfl⟩) (fun z1 g2 e => ?_)
    refine wp_p (j := J_Y_readTag) 2 (pc' := 127) (lv' := [(3, .int z1), (4, .int w0), (0, .ref v0), (1, .int v1), (2, .int v2)]) (st' := []) rfl ?_
    have e := Option.some.inj e; subst e; exact wp_lv (lv' := [(0, .ref v0), (1, .int v1), (2, .int v2), (3, .int z1), (4, .int w0)]) rfl ⟨rfl, rfl, rfl, rfl, rfl, trivial⟩ c
noncomputable def k_Y_readTag_192 (v0 : Nat) (v1 : Int32) (v2 : Int32) (v3 : Int32) (g : g_S) : Option ((Int32 × Int32 × g_S) ⊕ (Int32 × g_S)) :=
  k_Y_readTag_193 v0 v1 v2 v3 0 g
set_option maxRecDepth 20000 in
theorem x_Y_readTag_192 {L : Nat} {xs : Nat → Int32} {Q : Option Value → ab_H → Prop} {v0 : Nat} {v1 : Int32} {v2 : Int32} {v3 : Int32} {g : g_S} {out : (Int32 × Int32 × g_S) ⊕ (Int32 × g_S)} (e : k_Y_readTag_192 v0 v1 v2 v3 g = some out) (c : cL_Y_readTag_127 L xs Q v0 v1 v2 out) : wp (ab_ext L xs) J_Y_readTag 192 [(0, .ref v0), (1, .int v1), (2, .int v2), (3, .int v3)] [] (hp g) Q := by
  unfold k_Y_readTag_192 at e
  refine wp_p (j := J_Y_readTag) 1 (pc' := 193) (lv' := [(0, .ref v0), (1, .int v1), (2, .int v2), (3, .int v3)]) (st' := [.int 0]) rfl ?_
  exact wp_lv (lv' := [(0, .ref v0), (1, .int v1), (2, .int v2), (3, .int v3)]) rfl ⟨rfl, rfl, rfl, rfl, trivial⟩ (x_Y_readTag_193 e c)
noncomputable def k_Y_readTag_169 (v0 : Nat) (v1 : Int32) (v2 : Int32) (v3 : Int32) (g : g_S) : Option ((Int32 × Int32 × g_S) ⊕ (Int32 × g_S)) :=
  (rI g 112 v0 76).bind fun z1 =>
  if v3 < z1 then
    (rQ g 112 v0 75).bind fun z2 =>
    (aI g 1 z2 v3).bind fun z3 =>
    if z3 = 62 then
      k_Y_readTag_192 v0 v1 v2 v3 g
    else
      k_Y_readTag_193 v0 v1 v2 v3 1 g
  else
    k_Y_readTag_192 v0 v1 v2 v3 g
set_option maxRecDepth 20000 in
theorem x_Y_readTag_169 {L : Nat} {xs : Nat → Int32} {Q : Option Value → ab_H → Prop} {v0 : Nat} {v1 : Int32} {v2 : Int32} {v3 : Int32} {g : g_S} {out : (Int32 × Int32 × g_S) ⊕ (Int32 × g_S)} (e : k_Y_readTag_169 v0 v1 v2 v3 g = some out) (c : cL_Y_readTag_127 L xs Q v0 v1 v2 out) : wp (ab_ext L xs) J_Y_readTag 169 [(0, .ref v0), (1, .int v1), (2, .int v2), (3, .int v3)] [] (hp g) Q := by
  unfold k_Y_readTag_169 at e
  refine wp_p (j := J_Y_readTag) 2 (pc' := 171) (lv' := [(0, .ref v0), (1, .int v1), (2, .int v2), (3, .int v3)]) (st' := [.ref v0, .int v3]) rfl ?_
  refine x_gI e rfl rfl fd_12_76 rfl (fun z1 e => ?_)
  refine x_ge e rfl (fun e => ?_) (fun e => ?_)
  · refine wp_p (j := J_Y_readTag) 1 (pc' := 178) (lv' := [(0, .ref v0), (1, .int v1), (2, .int v2), (3, .int v3)]) (st' := [.ref v0]) rfl ?_
    refine x_gQ e rfl rfl fd_12_75 rfl (fun z2 e => ?_)
    refine wp_p (j := J_Y_readTag) 1 (pc' := 182) (lv' := [(0, .ref v0), (1, .int v1), (2, .int v2), (3, .int v3)]) (st' := [.int v3, .ref z2]) rfl ?_
    refine x_aB e rfl (.inl rfl) rfl (fun z3 e => ?_)
    refine wp_p (j := J_Y_readTag) 1 (pc' := 185) (lv' := [(0, .ref v0), (1, .int v1), (2, .int v2), (3, .int v3)]) (st' := [.int 62, .int z3]) rfl ?_
    refine x_eq e rfl (fun e => ?_) (fun e => ?_)
    · exact wp_lv (lv' := [(0, .ref v0), (1, .int v1), (2, .int v2), (3, .int v3)]) rfl ⟨rfl, rfl, rfl, rfl, trivial⟩ (x_Y_readTag_192 e c)
    · refine wp_p (j := J_Y_readTag) 2 (pc' := 193) (lv' := [(0, .ref v0), (1, .int v1), (2, .int v2), (3, .int v3)]) (st' := [.int 1]) rfl ?_
      exact wp_lv (lv' := [(0, .ref v0), (1, .int v1), (2, .int v2), (3, .int v3)]) rfl ⟨rfl, rfl, rfl, rfl, trivial⟩ (x_Y_readTag_193 e c)
  · exact wp_lv (lv' := [(0, .ref v0), (1, .int v1), (2, .int v2), (3, .int v3)]) rfl ⟨rfl, rfl, rfl, rfl, trivial⟩ (x_Y_readTag_192 e c)
noncomputable def b_Y_readTag_127 (v0 : Nat) (v1 : Int32) (v2 : Int32) (v3 : Int32) (v4 : Int32) (g : g_S) : Option ((Int32 × Int32 × g_S) ⊕ (Int32 × g_S)) :=
  if v4 = 0 then
    some (.inr (v3, g))
  else
    (L_Y_readTag_132 v0 v1 v2 v3 g).bind <| fun z3 =>
    k_Y_readTag_169 v0 v1 v2 z3 g
set_option maxRecDepth 20000 in
theorem y_Y_readTag_127 {L : Nat} {xs : Nat → Int32} {Q : Option Value → ab_H → Prop} {v0 : Nat} {v1 : Int32} {v2 : Int32} {v3 : Int32} {v4 : Int32} {g : g_S} {out : (Int32 × Int32 × g_S) ⊕ (Int32 × g_S)} (e : b_Y_readTag_127 v0 v1 v2 v3 v4 g = some out) (c : cL_Y_readTag_127 L xs Q v0 v1 v2 out) : wp (ab_ext L xs) J_Y_readTag 127 [(0, .ref v0), (1, .int v1), (2, .int v2), (3, .int v3), (4, .int v4)] [] (hp g) Q := by
  unfold b_Y_readTag_127 at e
  refine wp_p (j := J_Y_readTag) 1 (pc' := 129) (lv' := [(0, .ref v0), (1, .int v1), (2, .int v2), (3, .int v3), (4, .int v4)]) (st' := [.int v4]) rfl ?_
  refine z_eq e rfl (fun e => ?_) (fun e => ?_)
  · have e := Option.some.inj e; subst e; exact wp_lv (lv' := [(0, .ref v0), (1, .int v1), (2, .int v2), (3, .int v3)]) rfl ⟨rfl, rfl, rfl, rfl, trivial⟩ c
  · obtain ⟨z3, h2, e⟩ := bd e
    refine wp_lv (lv' := [(0, .ref v0), (1, .int v1), (2, .int v2), (3, .int v3)]) rfl ⟨rfl, rfl, rfl, rfl, trivial⟩ ?_
    refine l_Y_readTag_132 h2 ?_
    show wp (ab_ext L xs) J_Y_readTag 169 [(0, .ref v0), (1, .int v1), (2, .int v2), (3, .int z3)] [] (hp g) Q
    exact wp_lv (lv' := [(0, .ref v0), (1, .int v1), (2, .int v2), (3, .int z3)]) rfl ⟨rfl, rfl, rfl, rfl, trivial⟩ (x_Y_readTag_169 e c)
noncomputable def L_Y_readTag_127 (v0 : Nat) (v1 : Int32) (v2 : Int32) (v3 : Int32) (v4 : Int32) (g : g_S) : Option (Int32 × g_S) := it (fun s : Int32 × Int32 × g_S => b_Y_readTag_127 v0 v1 v2 s.1 s.2.1 s.2.2) (v3, v4, g)
theorem l_Y_readTag_127 {L : Nat} {xs : Nat → Int32} {Q : Option Value → ab_H → Prop} {v0 : Nat} {v1 : Int32} {v2 : Int32} {v3 : Int32} {v4 : Int32} {g : g_S} {r : Int32 × g_S} (e : L_Y_readTag_127 v0 v1 v2 v3 v4 g = some r) (c : cL_Y_readTag_127 L xs Q v0 v1 v2 (.inr r)) : wp (ab_ext L xs) J_Y_readTag 127 [(0, .ref v0), (1, .int v1), (2, .int v2), (3, .int v3), (4, .int v4)] [] (hp g) Q :=
  it_wp (P := fun s : Int32 × Int32 × g_S => wp (ab_ext L xs) J_Y_readTag 127 [(0, .ref v0), (1, .int v1), (2, .int v2), (3, .int s.1), (4, .int s.2.1)] [] (hp s.2.2) Q) (E := fun r => cL_Y_readTag_127 L xs Q v0 v1 v2 (.inr r)) (fun s out e c => y_Y_readTag_127 e (by cases out <;> exact c)) e c
theorem L_Y_readTag_127_eq (v0 : Nat) (v1 : Int32) (v2 : Int32) (v3 : Int32) (v4 : Int32) (g : g_S) : L_Y_readTag_127 v0 v1 v2 v3 v4 g = itc (b_Y_readTag_127 v0 v1 v2 v3 v4 g) (fun s => L_Y_readTag_127 v0 v1 v2 s.1 s.2.1 s.2.2) := it_eq2 (fun s : Int32 × Int32 × g_S => b_Y_readTag_127 v0 v1 v2 s.1 s.2.1 s.2.2) (v3, v4, g)
noncomputable def k_Y_readTag_114 (v0 : Nat) (v1 : Int32) (v2 : Int32) (v3 : Int32) (g : g_S) : Option (Int32 × g_S) :=
  (wI g 112 v0 80 0).bind fun g1 =>
  (wI g1 112 v0 85 0).bind fun g2 =>
  (L_Y_readTag_127 v0 v1 v2 v3 1 g2).bind <| u2 fun z5 g6 =>
  (rI g6 112 v0 76).bind fun z7 =>
  if z5 < z7 then
    (rQ g6 112 v0 78).bind fun z8 =>
    (rI g6 112 v0 79).bind fun z9 =>
    (M_Y_tagOf z8 0 z9 g6).bind fun z10 =>
    if v2 = 0 then
      (L_Y_readTag_259 v0 v1 z5 z10 0 g6).bind <| fun g13 =>
      (vc g13 112 v0 (M_Y_startTag v0 v1 z10 g13)).bind fun g14 =>
      some (z5 + 1, g14)
    else
      (vc g6 112 v0 (M_Y_endTag v0 v1 z10 g6)).bind fun g15 =>
      some (z5 + 1, g15)
  else
    (vc g6 112 v0 (M_Y_tellFault v0 1 v1 g6)).bind fun g16 =>
    (rI g16 112 v0 76).bind fun z17 =>
    some (z17, g16)
set_option maxRecDepth 20000 in
theorem x_Y_readTag_114 {L : Nat} {xs : Nat → Int32} {Q : Option Value → ab_H → Prop} {v0 : Nat} {v1 : Int32} {v2 : Int32} {v3 : Int32} {g : g_S} {out : Int32 × g_S} (e : k_Y_readTag_114 v0 v1 v2 v3 g = some out) (c : Q (some (.int out.1)) (hp out.2)) : wp (ab_ext L xs) J_Y_readTag 114 [(0, .ref v0), (1, .int v1), (2, .int v2), (3, .int v3)] [] (hp g) Q := by
  unfold k_Y_readTag_114 at e
  refine wp_p (j := J_Y_readTag) 2 (pc' := 116) (lv' := [(0, .ref v0), (1, .int v1), (2, .int v2), (3, .int v3)]) (st' := [.int 0, .ref v0]) rfl ?_
  refine x_pI e rfl rfl fw_12_80 rfl (fun g1 e => ?_)
  refine wp_p (j := J_Y_readTag) 2 (pc' := 121) (lv' := [(0, .ref v0), (1, .int v1), (2, .int v2), (3, .int v3)]) (st' := [.int 0, .ref v0]) rfl ?_
  refine x_pI e rfl rfl fw_12_85 rfl (fun g2 e => ?_)
  refine wp_p (j := J_Y_readTag) 2 (pc' := 127) (lv' := [(4, .int 1), (0, .ref v0), (1, .int v1), (2, .int v2), (3, .int v3)]) (st' := []) rfl ?_
  obtain ⟨s3, h4, e⟩ := bd e
  refine wp_lv (lv' := [(0, .ref v0), (1, .int v1), (2, .int v2), (3, .int v3), (4, .int 1)]) rfl ⟨rfl, rfl, rfl, rfl, rfl, trivial⟩ ?_
  refine l_Y_readTag_127 h4 ?_
  obtain ⟨z5, g6⟩ := s3
  replace e := u2_e e
  show wp (ab_ext L xs) J_Y_readTag 209 [(0, .ref v0), (1, .int v1), (2, .int v2), (3, .int z5)] [] (hp g6) Q
  refine wp_p (j := J_Y_readTag) 2 (pc' := 211) (lv' := [(0, .ref v0), (1, .int v1), (2, .int v2), (3, .int z5)]) (st' := [.ref v0, .int z5]) rfl ?_
  refine x_gI e rfl rfl fd_12_76 rfl (fun z7 e => ?_)
  refine x_lt e rfl (fun e => ?_) (fun e => ?_)
  · refine wp_p (j := J_Y_readTag) 1 (pc' := 229) (lv' := [(0, .ref v0), (1, .int v1), (2, .int v2), (3, .int z5)]) (st' := [.ref v0]) rfl ?_
    refine x_gQ e rfl rfl fd_12_78 rfl (fun z8 e => ?_)
    refine wp_p (j := J_Y_readTag) 2 (pc' := 234) (lv' := [(0, .ref v0), (1, .int v1), (2, .int v2), (3, .int z5)]) (st' := [.ref v0, .int 0, .ref z8]) rfl ?_
    refine x_gI e rfl rfl fd_12_79 rfl (fun z9 e => ?_)
    refine x_cs1 (As := [.ref z8, .int 0, .int z9]) (rest := []) Value.int e rfl rfl rfl rfl rfl (fun h => d_Y_tagOf h ⟨rfl, rfl⟩) (fun z10 e => ?_)
    refine wp_p (j := J_Y_readTag) 2 (pc' := 243) (lv' := [(5, .int z10), (0, .ref v0), (1, .int v1), (2, .int v2), (3, .int z5)]) (st' := [.int v2]) rfl ?_
    refine z_eq e rfl (fun e => ?_) (fun e => ?_)
    · refine wp_p (j := J_Y_readTag) 2 (pc' := 259) (lv' := [(6, .int 0), (5, .int z10), (0, .ref v0), (1, .int v1), (2, .int v2), (3, .int z5)]) (st' := []) rfl ?_
      obtain ⟨g13, h12, e⟩ := bd e
      refine wp_lv (lv' := [(0, .ref v0), (1, .int v1), (3, .int z5), (5, .int z10), (6, .int 0)]) rfl ⟨rfl, rfl, rfl, rfl, rfl, trivial⟩ ?_
      refine l_Y_readTag_259 h12 ?_
      show wp (ab_ext L xs) J_Y_readTag 286 [(0, .ref v0), (1, .int v1), (3, .int z5), (5, .int z10)] [] (hp g13) Q
      refine wp_p (j := J_Y_readTag) 3 (pc' := 290) (lv' := [(0, .ref v0), (1, .int v1), (3, .int z5), (5, .int z10)]) (st' := [.int z10, .int v1, .ref v0]) rfl ?_
      refine x_cv0 (As := [.int v1, .int z10]) (rest := []) e rfl rfl rfl rfl rfl rfl (fun h => d_Y_startTag h ⟨rfl, rfl⟩) (fun g14 e => ?_)
      refine wp_p (j := J_Y_readTag) 3 (pc' := 296) (lv' := [(0, .ref v0), (1, .int v1), (3, .int z5), (5, .int z10)]) (st' := [.int (z5 + 1)]) rfl ?_
      have e := Option.some.inj e; subst e; exact wp_iret (ty := .int) rfl rfl rfl c
    · refine wp_p (j := J_Y_readTag) 3 (pc' := 250) (lv' := [(5, .int z10), (0, .ref v0), (1, .int v1), (2, .int v2), (3, .int z5)]) (st' := [.int z10, .int v1, .ref v0]) rfl ?_
      refine x_cv0 (As := [.int v1, .int z10]) (rest := []) e rfl rfl rfl rfl rfl rfl (fun h => d_Y_endTag h ⟨rfl, rfl⟩) (fun g15 e => ?_)
      refine wp_p (j := J_Y_readTag) 4 (pc' := 296) (lv' := [(5, .int z10), (0, .ref v0), (1, .int v1), (2, .int v2), (3, .int z5)]) (st' := [.int (z5 + 1)]) rfl ?_
      have e := Option.some.inj e; subst e; exact wp_iret (ty := .int) rfl rfl rfl c
  · refine wp_p (j := J_Y_readTag) 3 (pc' := 220) (lv' := [(0, .ref v0), (1, .int v1), (2, .int v2), (3, .int z5)]) (st' := [.int v1, .int 1, .ref v0]) rfl ?_
    refine x_cv0 (As := [.int 1, .int v1]) (rest := []) e rfl rfl rfl rfl rfl rfl (fun h => d_Y_tellFault h ⟨rfl, rfl⟩) (fun g16 e => ?_)
    refine wp_p (j := J_Y_readTag) 1 (pc' := 224) (lv' := [(0, .ref v0), (1, .int v1), (2, .int v2), (3, .int z5)]) (st' := [.ref v0]) rfl ?_
    refine x_gI e rfl rfl fd_12_76 rfl (fun z17 e => ?_)
    have e := Option.some.inj e; subst e; exact wp_iret (ty := .int) rfl rfl rfl c
noncomputable def k_Y_readTag_32 (v0 : Nat) (v1 : Int32) (v2 : Int32) (w0 : Int32) (g : g_S) : Option (Int32 × g_S) :=
  (wI g 112 v0 79 0).bind fun g1 =>
  (L_Y_readTag_38 v0 v1 v2 w0 g1).bind <| u2 fun z4 g5 =>
  k_Y_readTag_114 v0 v1 v2 z4 g5
set_option maxRecDepth 20000 in
theorem x_Y_readTag_32 {L : Nat} {xs : Nat → Int32} {Q : Option Value → ab_H → Prop} {v0 : Nat} {v1 : Int32} {v2 : Int32} {w0 : Int32} {g : g_S} {out : Int32 × g_S} (e : k_Y_readTag_32 v0 v1 v2 w0 g = some out) (c : Q (some (.int out.1)) (hp out.2)) : wp (ab_ext L xs) J_Y_readTag 32 [(0, .ref v0), (1, .int v1), (2, .int v2)] [.int w0] (hp g) Q := by
  unfold k_Y_readTag_32 at e
  refine wp_p (j := J_Y_readTag) 3 (pc' := 35) (lv' := [(3, .int w0), (0, .ref v0), (1, .int v1), (2, .int v2)]) (st' := [.int 0, .ref v0]) rfl ?_
  refine x_pI e rfl rfl fw_12_79 rfl (fun g1 e => ?_)
  obtain ⟨s2, h3, e⟩ := bd e
  refine wp_lv (lv' := [(0, .ref v0), (1, .int v1), (2, .int v2), (3, .int w0)]) rfl ⟨rfl, rfl, rfl, rfl, trivial⟩ ?_
  refine l_Y_readTag_38 h3 ?_
  obtain ⟨z4, g5⟩ := s2
  replace e := u2_e e
  show wp (ab_ext L xs) J_Y_readTag 114 [(0, .ref v0), (1, .int v1), (2, .int v2), (3, .int z4)] [] (hp g5) Q
  exact wp_lv (lv' := [(0, .ref v0), (1, .int v1), (2, .int v2), (3, .int z4)]) rfl ⟨rfl, rfl, rfl, rfl, trivial⟩ (x_Y_readTag_114 e c)
noncomputable def k_Y_readTag_18 (v0 : Nat) (v1 : Int32) (w0 : Int32) (g : g_S) : Option (Int32 × g_S) :=
  if w0 = 0 then
    k_Y_readTag_32 v0 v1 w0 (v1 + 1) g
  else
    k_Y_readTag_32 v0 v1 w0 (v1 + 2) g
set_option maxRecDepth 20000 in
theorem x_Y_readTag_18 {L : Nat} {xs : Nat → Int32} {Q : Option Value → ab_H → Prop} {v0 : Nat} {v1 : Int32} {w0 : Int32} {g : g_S} {out : Int32 × g_S} (e : k_Y_readTag_18 v0 v1 w0 g = some out) (c : Q (some (.int out.1)) (hp out.2)) : wp (ab_ext L xs) J_Y_readTag 18 [(0, .ref v0), (1, .int v1)] [.int w0] (hp g) Q := by
  unfold k_Y_readTag_18 at e
  refine wp_p (j := J_Y_readTag) 2 (pc' := 20) (lv' := [(2, .int w0), (0, .ref v0), (1, .int v1)]) (st' := [.int w0]) rfl ?_
  refine z_eq e rfl (fun e => ?_) (fun e => ?_)
  · refine wp_p (j := J_Y_readTag) 3 (pc' := 32) (lv' := [(2, .int w0), (0, .ref v0), (1, .int v1)]) (st' := [.int (v1 + 1)]) rfl ?_
    exact wp_lv (lv' := [(0, .ref v0), (1, .int v1), (2, .int w0)]) rfl ⟨rfl, rfl, rfl, trivial⟩ (x_Y_readTag_32 e c)
  · refine wp_p (j := J_Y_readTag) 4 (pc' := 32) (lv' := [(2, .int w0), (0, .ref v0), (1, .int v1)]) (st' := [.int (v1 + 2)]) rfl ?_
    exact wp_lv (lv' := [(0, .ref v0), (1, .int v1), (2, .int w0)]) rfl ⟨rfl, rfl, rfl, trivial⟩ (x_Y_readTag_32 e c)
noncomputable def M_Y_readTag (v0 : Nat) (v1 : Int32) (g : g_S) : Option (Int32 × g_S) :=
  (rQ g 112 v0 75).bind fun z1 =>
  (aI g 1 z1 (v1 + 1)).bind fun z2 =>
  if z2 = 47 then
    k_Y_readTag_18 v0 v1 1 g
  else
    k_Y_readTag_18 v0 v1 0 g
set_option maxRecDepth 20000 in
theorem d_Y_readTag {L : Nat} {xs : Nat → Int32} {Q : Option Value → ab_H → Prop} {v0 : Nat} {v1 : Int32} {g : g_S} {out : Int32 × g_S} (e : M_Y_readTag v0 v1 g = some out) (c : Q (some (.int out.1)) (hp out.2)) : mw (ab_ext L xs) J_Y_readTag [.ref v0, .int v1] (hp g) Q := by
  unfold M_Y_readTag at e
  refine wp_p (j := J_Y_readTag) 1 (pc' := 1) (lv' := [(0, .ref v0), (1, .int v1)]) (st' := [.ref v0]) rfl ?_
  refine x_gQ e rfl rfl fd_12_75 rfl (fun z1 e => ?_)
  refine wp_p (j := J_Y_readTag) 3 (pc' := 7) (lv' := [(0, .ref v0), (1, .int v1)]) (st' := [.int (v1 + 1), .ref z1]) rfl ?_
  refine x_aB e rfl (.inl rfl) rfl (fun z2 e => ?_)
  refine wp_p (j := J_Y_readTag) 1 (pc' := 10) (lv' := [(0, .ref v0), (1, .int v1)]) (st' := [.int 47, .int z2]) rfl ?_
  refine x_ne e rfl (fun e => ?_) (fun e => ?_)
  · refine wp_p (j := J_Y_readTag) 2 (pc' := 18) (lv' := [(0, .ref v0), (1, .int v1)]) (st' := [.int 1]) rfl ?_
    exact wp_lv (lv' := [(0, .ref v0), (1, .int v1)]) rfl ⟨rfl, rfl, trivial⟩ (x_Y_readTag_18 e c)
  · refine wp_p (j := J_Y_readTag) 1 (pc' := 18) (lv' := [(0, .ref v0), (1, .int v1)]) (st' := [.int 0]) rfl ?_
    exact wp_lv (lv' := [(0, .ref v0), (1, .int v1)]) rfl ⟨rfl, rfl, trivial⟩ (x_Y_readTag_18 e c)
def cL_Y_readPage_23 (L : Nat) (xs : Nat → Int32) (Q : Option Value → ab_H → Prop) (v0 : Nat) (out : (Int32 × g_S) ⊕ (g_S)) : Prop := match out with
  | .inl s => wp (ab_ext L xs) J_Y_readPage 23 [(0, .ref v0), (1, .int s.1)] [] (hp s.2) Q
  | .inr s => wp (ab_ext L xs) J_Y_readPage 114 [(0, .ref v0)] [] (hp s) Q
noncomputable def k_Y_readPage_70 (v0 : Nat) (v1 : Int32) (g : g_S) : Option ((Int32 × g_S) ⊕ (g_S)) :=
  (vc g 112 v0 (M_Y_isNote v0 v1 g)).bind fun z1 =>
  if z1 = 0 then
    (vc g 112 v0 (M_Y_isTag v0 v1 g)).bind fun z2 =>
    if z2 = 0 then
      c2 (vc g 112 v0 (M_Y_run v0 v1 0 g)) fun z3 g4 =>
      some (.inl (z3, g4))
    else
      c2 (vc g 112 v0 (M_Y_readTag v0 v1 g)) fun z5 g6 =>
      some (.inl (z5, g6))
  else
    c2 (vc g 112 v0 (M_Y_note v0 v1 g)) fun z7 g8 =>
    some (.inl (z7, g8))
set_option maxRecDepth 20000 in
theorem x_Y_readPage_70 {L : Nat} {xs : Nat → Int32} {Q : Option Value → ab_H → Prop} {v0 : Nat} {v1 : Int32} {g : g_S} {out : (Int32 × g_S) ⊕ (g_S)} (e : k_Y_readPage_70 v0 v1 g = some out) (c : cL_Y_readPage_23 L xs Q v0 out) : wp (ab_ext L xs) J_Y_readPage 70 [(0, .ref v0), (1, .int v1)] [] (hp g) Q := by
  unfold k_Y_readPage_70 at e
  refine wp_p (j := J_Y_readPage) 2 (pc' := 72) (lv' := [(0, .ref v0), (1, .int v1)]) (st' := [.int v1, .ref v0]) rfl ?_
  refine x_cv1 (As := [.int v1]) (rest := []) Value.int e rfl rfl rfl rfl rfl rfl (fun h => d_Y_isNote h ⟨rfl, rfl⟩) (fun z1 e => ?_)
  refine z_eq e rfl (fun e => ?_) (fun e => ?_)
  · refine wp_p (j := J_Y_readPage) 2 (pc' := 89) (lv' := [(0, .ref v0), (1, .int v1)]) (st' := [.int v1, .ref v0]) rfl ?_
    refine x_cv1 (As := [.int v1]) (rest := []) Value.int e rfl rfl rfl rfl rfl rfl (fun h => d_Y_isTag h ⟨rfl, rfl⟩) (fun z2 e => ?_)
    refine z_eq e rfl (fun e => ?_) (fun e => ?_)
    · refine wp_p (j := J_Y_readPage) 3 (pc' := 107) (lv' := [(0, .ref v0), (1, .int v1)]) (st' := [.int 0, .int v1, .ref v0]) rfl ?_
      refine x_cv2 (As := [.int v1, .int 0]) (rest := []) Value.int e rfl rfl rfl rfl rfl rfl (fun h => d_Y_run h ⟨rfl, rfl⟩) (fun z3 g4 e => ?_)
      refine wp_p (j := J_Y_readPage) 2 (pc' := 23) (lv' := [(1, .int z3), (0, .ref v0)]) (st' := []) rfl ?_
      have e := Option.some.inj e; subst e; exact wp_lv (lv' := [(0, .ref v0), (1, .int z3)]) rfl ⟨rfl, rfl, trivial⟩ c
    · refine wp_p (j := J_Y_readPage) 2 (pc' := 97) (lv' := [(0, .ref v0), (1, .int v1)]) (st' := [.int v1, .ref v0]) rfl ?_
      refine x_cv2 (As := [.int v1]) (rest := []) Value.int e rfl rfl rfl rfl rfl rfl (fun h => d_Y_readTag h ⟨rfl, rfl⟩) (fun z5 g6 e => ?_)
      refine wp_p (j := J_Y_readPage) 2 (pc' := 23) (lv' := [(1, .int z5), (0, .ref v0)]) (st' := []) rfl ?_
      have e := Option.some.inj e; subst e; exact wp_lv (lv' := [(0, .ref v0), (1, .int z5)]) rfl ⟨rfl, rfl, trivial⟩ c
  · refine wp_p (j := J_Y_readPage) 2 (pc' := 80) (lv' := [(0, .ref v0), (1, .int v1)]) (st' := [.int v1, .ref v0]) rfl ?_
    refine x_cv2 (As := [.int v1]) (rest := []) Value.int e rfl rfl rfl rfl rfl rfl (fun h => d_Y_note h ⟨rfl, rfl⟩) (fun z7 g8 e => ?_)
    refine wp_p (j := J_Y_readPage) 2 (pc' := 23) (lv' := [(1, .int z7), (0, .ref v0)]) (st' := []) rfl ?_
    have e := Option.some.inj e; subst e; exact wp_lv (lv' := [(0, .ref v0), (1, .int z7)]) rfl ⟨rfl, rfl, trivial⟩ c
noncomputable def b_Y_readPage_23 (v0 : Nat) (v1 : Int32) (g : g_S) : Option ((Int32 × g_S) ⊕ (g_S)) :=
  (rI g 112 v0 76).bind fun z1 =>
  if v1 < z1 then
    (rQ g 112 v0 46).bind fun z2 =>
    (rQ g 112 v0 73).bind fun z3 =>
    (rI g 112 v0 74).bind fun z4 =>
    (aI g 0 z3 (z4 - 1)).bind fun z5 =>
    (aI g 0 z2 z5).bind fun z6 =>
    if z6 = 15 then
      (vc g 112 v0 (M_Y_endsStyle v0 v1 g)).bind fun z7 =>
      if z7 = 0 then
        c2 (vc g 112 v0 (M_Y_run v0 v1 1 g)) fun z8 g9 =>
        some (.inl (z8, g9))
      else
        k_Y_readPage_70 v0 v1 g
    else
      k_Y_readPage_70 v0 v1 g
  else
    some (.inr g)
set_option maxRecDepth 20000 in
theorem y_Y_readPage_23 {L : Nat} {xs : Nat → Int32} {Q : Option Value → ab_H → Prop} {v0 : Nat} {v1 : Int32} {g : g_S} {out : (Int32 × g_S) ⊕ (g_S)} (e : b_Y_readPage_23 v0 v1 g = some out) (c : cL_Y_readPage_23 L xs Q v0 out) : wp (ab_ext L xs) J_Y_readPage 23 [(0, .ref v0), (1, .int v1)] [] (hp g) Q := by
  unfold b_Y_readPage_23 at e
  refine wp_p (j := J_Y_readPage) 2 (pc' := 25) (lv' := [(0, .ref v0), (1, .int v1)]) (st' := [.ref v0, .int v1]) rfl ?_
  refine x_gI e rfl rfl fd_12_76 rfl (fun z1 e => ?_)
  refine x_ge e rfl (fun e => ?_) (fun e => ?_)
  · refine wp_p (j := J_Y_readPage) 1 (pc' := 32) (lv' := [(0, .ref v0), (1, .int v1)]) (st' := [.ref v0]) rfl ?_
    refine x_gQ e rfl rfl fd_12_46 rfl (fun z2 e => ?_)
    refine wp_p (j := J_Y_readPage) 1 (pc' := 36) (lv' := [(0, .ref v0), (1, .int v1)]) (st' := [.ref v0, .ref z2]) rfl ?_
    refine x_gQ e rfl rfl fd_12_73 rfl (fun z3 e => ?_)
    refine wp_p (j := J_Y_readPage) 1 (pc' := 40) (lv' := [(0, .ref v0), (1, .int v1)]) (st' := [.ref v0, .ref z3, .ref z2]) rfl ?_
    refine x_gI e rfl rfl fd_12_74 rfl (fun z4 e => ?_)
    refine wp_p (j := J_Y_readPage) 2 (pc' := 45) (lv' := [(0, .ref v0), (1, .int v1)]) (st' := [.int (z4 - 1), .ref z3, .ref z2]) rfl ?_
    refine x_aI e rfl rfl (fun z5 e => ?_)
    refine x_aI e rfl rfl (fun z6 e => ?_)
    refine wp_p (j := J_Y_readPage) 1 (pc' := 49) (lv' := [(0, .ref v0), (1, .int v1)]) (st' := [.int 15, .int z6]) rfl ?_
    refine x_ne e rfl (fun e => ?_) (fun e => ?_)
    · refine wp_p (j := J_Y_readPage) 2 (pc' := 54) (lv' := [(0, .ref v0), (1, .int v1)]) (st' := [.int v1, .ref v0]) rfl ?_
      refine x_cv1 (As := [.int v1]) (rest := []) Value.int e rfl rfl rfl rfl rfl rfl (fun h => d_Y_endsStyle h ⟨rfl, rfl⟩) (fun z7 e => ?_)
      refine z_ne e rfl (fun e => ?_) (fun e => ?_)
      · refine wp_p (j := J_Y_readPage) 3 (pc' := 63) (lv' := [(0, .ref v0), (1, .int v1)]) (st' := [.int 1, .int v1, .ref v0]) rfl ?_
        refine x_cv2 (As := [.int v1, .int 1]) (rest := []) Value.int e rfl rfl rfl rfl rfl rfl (fun h => d_Y_run h ⟨rfl, rfl⟩) (fun z8 g9 e => ?_)
        refine wp_p (j := J_Y_readPage) 2 (pc' := 23) (lv' := [(1, .int z8), (0, .ref v0)]) (st' := []) rfl ?_
        have e := Option.some.inj e; subst e; exact wp_lv (lv' := [(0, .ref v0), (1, .int z8)]) rfl ⟨rfl, rfl, trivial⟩ c
      · exact wp_lv (lv' := [(0, .ref v0), (1, .int v1)]) rfl ⟨rfl, rfl, trivial⟩ (x_Y_readPage_70 e c)
    · exact wp_lv (lv' := [(0, .ref v0), (1, .int v1)]) rfl ⟨rfl, rfl, trivial⟩ (x_Y_readPage_70 e c)
  · have e := Option.some.inj e; subst e; exact wp_lv (lv' := [(0, .ref v0)]) rfl ⟨rfl, trivial⟩ c
noncomputable def L_Y_readPage_23 (v0 : Nat) (v1 : Int32) (g : g_S) : Option (g_S) := it (fun s : Int32 × g_S => b_Y_readPage_23 v0 s.1 s.2) (v1, g)
theorem l_Y_readPage_23 {L : Nat} {xs : Nat → Int32} {Q : Option Value → ab_H → Prop} {v0 : Nat} {v1 : Int32} {g : g_S} {r : g_S} (e : L_Y_readPage_23 v0 v1 g = some r) (c : cL_Y_readPage_23 L xs Q v0 (.inr r)) : wp (ab_ext L xs) J_Y_readPage 23 [(0, .ref v0), (1, .int v1)] [] (hp g) Q :=
  it_wp (P := fun s : Int32 × g_S => wp (ab_ext L xs) J_Y_readPage 23 [(0, .ref v0), (1, .int s.1)] [] (hp s.2) Q) (E := fun r => cL_Y_readPage_23 L xs Q v0 (.inr r)) (fun s out e c => y_Y_readPage_23 e (by cases out <;> exact c)) e c
theorem L_Y_readPage_23_eq (v0 : Nat) (v1 : Int32) (g : g_S) : L_Y_readPage_23 v0 v1 g = itc (b_Y_readPage_23 v0 v1 g) (fun s => L_Y_readPage_23 v0 s.1 s.2) := it_eq2 (fun s : Int32 × g_S => b_Y_readPage_23 v0 s.1 s.2) (v1, g)
noncomputable def M_Y_readPage (v0 : Nat) (g : g_S) : Option g_S :=
  (wI g 112 v0 70 0).bind fun g1 =>
  (vc g1 112 v0 (M_Y_emptyTree v0 g1)).bind fun g2 =>
  (rQ g2 112 v0 73).bind fun z3 =>
  (sI g2 z3 0 0).bind fun g4 =>
  (wI g4 112 v0 74 1).bind fun g5 =>
  (L_Y_readPage_23 v0 0 g5).bind <| fun g8 =>
  (vc g8 112 v0 (M_Y_closeTo v0 1 (-1) (-1) g8)).bind fun g9 =>
  some g9
set_option maxRecDepth 20000 in
theorem d_Y_readPage {L : Nat} {xs : Nat → Int32} {Q : Option Value → ab_H → Prop} {v0 : Nat} {g : g_S} {out : g_S} (e : M_Y_readPage v0 g = some out) (c : Q none (hp out)) : mw (ab_ext L xs) J_Y_readPage [.ref v0] (hp g) Q := by
  unfold M_Y_readPage at e
  refine wp_p (j := J_Y_readPage) 2 (pc' := 2) (lv' := [(0, .ref v0)]) (st' := [.int 0, .ref v0]) rfl ?_
  refine x_pI e rfl rfl fw_12_70 rfl (fun g1 e => ?_)
  refine wp_p (j := J_Y_readPage) 1 (pc' := 6) (lv' := [(0, .ref v0)]) (st' := [.ref v0]) rfl ?_
  refine x_cv0 (As := []) (rest := []) e rfl rfl rfl rfl rfl rfl (fun h => d_Y_emptyTree h ⟨rfl, rfl⟩) (fun g2 e => ?_)
  refine wp_p (j := J_Y_readPage) 1 (pc' := 10) (lv' := [(0, .ref v0)]) (st' := [.ref v0]) rfl ?_
  refine x_gQ e rfl rfl fd_12_73 rfl (fun z3 e => ?_)
  refine wp_p (j := J_Y_readPage) 2 (pc' := 15) (lv' := [(0, .ref v0)]) (st' := [.int 0, .int 0, .ref z3]) rfl ?_
  refine x_sI e rfl rfl (fun g4 e => ?_)
  refine wp_p (j := J_Y_readPage) 2 (pc' := 18) (lv' := [(0, .ref v0)]) (st' := [.int 1, .ref v0]) rfl ?_
  refine x_pI e rfl rfl fw_12_74 rfl (fun g5 e => ?_)
  refine wp_p (j := J_Y_readPage) 2 (pc' := 23) (lv' := [(1, .int 0), (0, .ref v0)]) (st' := []) rfl ?_
  obtain ⟨g8, h7, e⟩ := bd e
  refine wp_lv (lv' := [(0, .ref v0), (1, .int 0)]) rfl ⟨rfl, rfl, trivial⟩ ?_
  refine l_Y_readPage_23 h7 ?_
  show wp (ab_ext L xs) J_Y_readPage 114 [(0, .ref v0)] [] (hp g8) Q
  refine wp_p (j := J_Y_readPage) 4 (pc' := 118) (lv' := [(0, .ref v0)]) (st' := [.int (-1), .int (-1), .int 1, .ref v0]) rfl ?_
  refine x_cv0 (As := [.int 1, .int (-1), .int (-1)]) (rest := []) e rfl rfl rfl rfl rfl rfl (fun h => d_Y_closeTo h ⟨rfl, rfl⟩) (fun g9 e => ?_)
  have e := Option.some.inj e; subst e; exact wp_vret rfl rfl c
noncomputable def M_Y_changed (v0 : Nat) (g : g_S) : Option g_S :=
  (wZ g 112 v0 126 0).bind fun g1 =>
  some g1
set_option maxRecDepth 20000 in
theorem d_Y_changed {L : Nat} {xs : Nat → Int32} {Q : Option Value → ab_H → Prop} {v0 : Nat} {g : g_S} {out : g_S} (e : M_Y_changed v0 g = some out) (c : Q none (hp out)) : mw (ab_ext L xs) J_Y_changed [.ref v0] (hp g) Q := by
  unfold M_Y_changed at e
  refine wp_p (j := J_Y_changed) 2 (pc' := 2) (lv' := [(0, .ref v0)]) (st' := [.int 0, .ref v0]) rfl ?_
  refine x_pZ e rfl rfl fw_12_126 rfl (fun g1 e => ?_)
  have e := Option.some.inj e; subst e; exact wp_vret rfl rfl c
noncomputable def M_Y_newPage (v0 : Nat) (g : g_S) : Option g_S :=
  (vc g 112 v0 (M_Y_readPage v0 g)).bind fun g1 =>
  (wI g1 112 v0 150 (-1)).bind fun g2 =>
  (wI g2 112 v0 166 0).bind fun g3 =>
  (vc g3 112 v0 (M_Y_changed v0 g3)).bind fun g4 =>
  (wZ g4 112 v0 153 1).bind fun g5 =>
  some g5
set_option maxRecDepth 20000 in
theorem d_Y_newPage {L : Nat} {xs : Nat → Int32} {Q : Option Value → ab_H → Prop} {v0 : Nat} {g : g_S} {out : g_S} (e : M_Y_newPage v0 g = some out) (c : Q none (hp out)) : mw (ab_ext L xs) J_Y_newPage [.ref v0] (hp g) Q := by
  unfold M_Y_newPage at e
  refine wp_p (j := J_Y_newPage) 1 (pc' := 1) (lv' := [(0, .ref v0)]) (st' := [.ref v0]) rfl ?_
  refine x_cv0 (As := []) (rest := []) e rfl rfl rfl rfl rfl rfl (fun h => d_Y_readPage h ⟨rfl, rfl⟩) (fun g1 e => ?_)
  refine wp_p (j := J_Y_newPage) 2 (pc' := 6) (lv' := [(0, .ref v0)]) (st' := [.int (-1), .ref v0]) rfl ?_
  refine x_pI e rfl rfl fw_12_150 rfl (fun g2 e => ?_)
  refine wp_p (j := J_Y_newPage) 2 (pc' := 11) (lv' := [(0, .ref v0)]) (st' := [.int 0, .ref v0]) rfl ?_
  refine x_pI e rfl rfl fw_12_166 rfl (fun g3 e => ?_)
  refine wp_p (j := J_Y_newPage) 1 (pc' := 15) (lv' := [(0, .ref v0)]) (st' := [.ref v0]) rfl ?_
  refine x_cv0 (As := []) (rest := []) e rfl rfl rfl rfl rfl rfl (fun h => d_Y_changed h ⟨rfl, rfl⟩) (fun g4 e => ?_)
  refine wp_p (j := J_Y_newPage) 2 (pc' := 20) (lv' := [(0, .ref v0)]) (st' := [.int 1, .ref v0]) rfl ?_
  refine x_pZ e rfl rfl fw_12_153 rfl (fun g5 e => ?_)
  have e := Option.some.inj e; subst e; exact wp_vret rfl rfl c
def cL_Y_goTo_36 (L : Nat) (xs : Nat → Int32) (Q : Option Value → ab_H → Prop) (v0 : Nat) (out : (Int32 × g_S) ⊕ (g_S)) : Prop := match out with
  | .inl s => wp (ab_ext L xs) J_Y_goTo 36 [(0, .ref v0), (1, .int s.1)] [] (hp s.2) Q
  | .inr s => wp (ab_ext L xs) J_Y_goTo 71 [(0, .ref v0)] [] (hp s) Q
noncomputable def b_Y_goTo_36 (v0 : Nat) (v1 : Int32) (g : g_S) : Option ((Int32 × g_S) ⊕ (g_S)) :=
  (rI g 112 v0 76).bind fun z1 =>
  if v1 < z1 then
    (rQ g 112 v0 75).bind fun z2 =>
    (rQ g 112 v0 17).bind fun z3 =>
    (rI g 112 v0 44).bind fun z4 =>
    (aI g 1 z3 ((z4 * 1500) + v1)).bind fun z5 =>
    (sB g z2 v1 z5).bind fun g6 =>
    some (.inl (v1 + 1, g6))
  else
    some (.inr g)
set_option maxRecDepth 20000 in
theorem y_Y_goTo_36 {L : Nat} {xs : Nat → Int32} {Q : Option Value → ab_H → Prop} {v0 : Nat} {v1 : Int32} {g : g_S} {out : (Int32 × g_S) ⊕ (g_S)} (e : b_Y_goTo_36 v0 v1 g = some out) (c : cL_Y_goTo_36 L xs Q v0 out) : wp (ab_ext L xs) J_Y_goTo 36 [(0, .ref v0), (1, .int v1)] [] (hp g) Q := by
  unfold b_Y_goTo_36 at e
  refine wp_p (j := J_Y_goTo) 2 (pc' := 38) (lv' := [(0, .ref v0), (1, .int v1)]) (st' := [.ref v0, .int v1]) rfl ?_
  refine x_gI e rfl rfl fd_12_76 rfl (fun z1 e => ?_)
  refine x_ge e rfl (fun e => ?_) (fun e => ?_)
  · refine wp_p (j := J_Y_goTo) 1 (pc' := 45) (lv' := [(0, .ref v0), (1, .int v1)]) (st' := [.ref v0]) rfl ?_
    refine x_gQ e rfl rfl fd_12_75 rfl (fun z2 e => ?_)
    refine wp_p (j := J_Y_goTo) 2 (pc' := 50) (lv' := [(0, .ref v0), (1, .int v1)]) (st' := [.ref v0, .int v1, .ref z2]) rfl ?_
    refine x_gQ e rfl rfl fd_12_17 rfl (fun z3 e => ?_)
    refine wp_p (j := J_Y_goTo) 1 (pc' := 54) (lv' := [(0, .ref v0), (1, .int v1)]) (st' := [.ref v0, .ref z3, .int v1, .ref z2]) rfl ?_
    refine x_gI e rfl rfl fd_12_44 rfl (fun z4 e => ?_)
    refine wp_p (j := J_Y_goTo) 4 (pc' := 63) (lv' := [(0, .ref v0), (1, .int v1)]) (st' := [.int ((z4 * 1500) + v1), .ref z3, .int v1, .ref z2]) rfl ?_
    refine x_aB e rfl (.inl rfl) rfl (fun z5 e => ?_)
    refine x_sB e rfl rfl (fun g6 e => ?_)
    refine wp_p (j := J_Y_goTo) 2 (pc' := 36) (lv' := [(1, .int (v1 + 1)), (0, .ref v0)]) (st' := []) rfl ?_
    have e := Option.some.inj e; subst e; exact wp_lv (lv' := [(0, .ref v0), (1, .int (v1 + 1))]) rfl ⟨rfl, rfl, trivial⟩ c
  · have e := Option.some.inj e; subst e; exact wp_lv (lv' := [(0, .ref v0)]) rfl ⟨rfl, trivial⟩ c
noncomputable def L_Y_goTo_36 (v0 : Nat) (v1 : Int32) (g : g_S) : Option (g_S) := it (fun s : Int32 × g_S => b_Y_goTo_36 v0 s.1 s.2) (v1, g)
theorem l_Y_goTo_36 {L : Nat} {xs : Nat → Int32} {Q : Option Value → ab_H → Prop} {v0 : Nat} {v1 : Int32} {g : g_S} {r : g_S} (e : L_Y_goTo_36 v0 v1 g = some r) (c : cL_Y_goTo_36 L xs Q v0 (.inr r)) : wp (ab_ext L xs) J_Y_goTo 36 [(0, .ref v0), (1, .int v1)] [] (hp g) Q :=
  it_wp (P := fun s : Int32 × g_S => wp (ab_ext L xs) J_Y_goTo 36 [(0, .ref v0), (1, .int s.1)] [] (hp s.2) Q) (E := fun r => cL_Y_goTo_36 L xs Q v0 (.inr r)) (fun s out e c => y_Y_goTo_36 e (by cases out <;> exact c)) e c
theorem L_Y_goTo_36_eq (v0 : Nat) (v1 : Int32) (g : g_S) : L_Y_goTo_36 v0 v1 g = itc (b_Y_goTo_36 v0 v1 g) (fun s => L_Y_goTo_36 v0 s.1 s.2) := it_eq2 (fun s : Int32 × g_S => b_Y_goTo_36 v0 s.1 s.2) (v1, g)
def cL_Y_goTo_91 (L : Nat) (xs : Nat → Int32) (Q : Option Value → ab_H → Prop) (v0 : Nat) (out : (Int32 × g_S) ⊕ (g_S)) : Prop := match out with
  | .inl s => wp (ab_ext L xs) J_Y_goTo 91 [(0, .ref v0), (1, .int s.1)] [] (hp s.2) Q
  | .inr s => wp (ab_ext L xs) J_Y_goTo 127 [(0, .ref v0)] [] (hp s) Q
noncomputable def b_Y_goTo_91 (v0 : Nat) (v1 : Int32) (g : g_S) : Option ((Int32 × g_S) ⊕ (g_S)) :=
  (rQ g 112 v0 8).bind fun z1 =>
  (aI g 0 z1 3).bind fun z2 =>
  if v1 < z2 then
    (rQ g 112 v0 6).bind fun z3 =>
    (rQ g 112 v0 6).bind fun z4 =>
    (aI g 1 z4 (585 + v1)).bind fun z5 =>
    (sB g z3 (285 + v1) z5).bind fun g6 =>
    some (.inl (v1 + 1, g6))
  else
    some (.inr g)
set_option maxRecDepth 20000 in
theorem y_Y_goTo_91 {L : Nat} {xs : Nat → Int32} {Q : Option Value → ab_H → Prop} {v0 : Nat} {v1 : Int32} {g : g_S} {out : (Int32 × g_S) ⊕ (g_S)} (e : b_Y_goTo_91 v0 v1 g = some out) (c : cL_Y_goTo_91 L xs Q v0 out) : wp (ab_ext L xs) J_Y_goTo 91 [(0, .ref v0), (1, .int v1)] [] (hp g) Q := by
  unfold b_Y_goTo_91 at e
  refine wp_p (j := J_Y_goTo) 2 (pc' := 93) (lv' := [(0, .ref v0), (1, .int v1)]) (st' := [.ref v0, .int v1]) rfl ?_
  refine x_gQ e rfl rfl fd_12_8 rfl (fun z1 e => ?_)
  refine wp_p (j := J_Y_goTo) 1 (pc' := 97) (lv' := [(0, .ref v0), (1, .int v1)]) (st' := [.int 3, .ref z1, .int v1]) rfl ?_
  refine x_aI e rfl rfl (fun z2 e => ?_)
  refine x_ge e rfl (fun e => ?_) (fun e => ?_)
  · refine wp_p (j := J_Y_goTo) 1 (pc' := 102) (lv' := [(0, .ref v0), (1, .int v1)]) (st' := [.ref v0]) rfl ?_
    refine x_gQ e rfl rfl fd_12_6 rfl (fun z3 e => ?_)
    refine wp_p (j := J_Y_goTo) 4 (pc' := 111) (lv' := [(0, .ref v0), (1, .int v1)]) (st' := [.ref v0, .int (285 + v1), .ref z3]) rfl ?_
    refine x_gQ e rfl rfl fd_12_6 rfl (fun z4 e => ?_)
    refine wp_p (j := J_Y_goTo) 3 (pc' := 119) (lv' := [(0, .ref v0), (1, .int v1)]) (st' := [.int (585 + v1), .ref z4, .int (285 + v1), .ref z3]) rfl ?_
    refine x_aB e rfl (.inl rfl) rfl (fun z5 e => ?_)
    refine x_sB e rfl rfl (fun g6 e => ?_)
    refine wp_p (j := J_Y_goTo) 2 (pc' := 91) (lv' := [(1, .int (v1 + 1)), (0, .ref v0)]) (st' := []) rfl ?_
    have e := Option.some.inj e; subst e; exact wp_lv (lv' := [(0, .ref v0), (1, .int (v1 + 1))]) rfl ⟨rfl, rfl, trivial⟩ c
  · have e := Option.some.inj e; subst e; exact wp_lv (lv' := [(0, .ref v0)]) rfl ⟨rfl, trivial⟩ c
noncomputable def L_Y_goTo_91 (v0 : Nat) (v1 : Int32) (g : g_S) : Option (g_S) := it (fun s : Int32 × g_S => b_Y_goTo_91 v0 s.1 s.2) (v1, g)
theorem l_Y_goTo_91 {L : Nat} {xs : Nat → Int32} {Q : Option Value → ab_H → Prop} {v0 : Nat} {v1 : Int32} {g : g_S} {r : g_S} (e : L_Y_goTo_91 v0 v1 g = some r) (c : cL_Y_goTo_91 L xs Q v0 (.inr r)) : wp (ab_ext L xs) J_Y_goTo 91 [(0, .ref v0), (1, .int v1)] [] (hp g) Q :=
  it_wp (P := fun s : Int32 × g_S => wp (ab_ext L xs) J_Y_goTo 91 [(0, .ref v0), (1, .int s.1)] [] (hp s.2) Q) (E := fun r => cL_Y_goTo_91 L xs Q v0 (.inr r)) (fun s out e c => y_Y_goTo_91 e (by cases out <;> exact c)) e c
theorem L_Y_goTo_91_eq (v0 : Nat) (v1 : Int32) (g : g_S) : L_Y_goTo_91 v0 v1 g = itc (b_Y_goTo_91 v0 v1 g) (fun s => L_Y_goTo_91 v0 s.1 s.2) := it_eq2 (fun s : Int32 × g_S => b_Y_goTo_91 v0 s.1 s.2) (v1, g)
noncomputable def k_Y_goTo_31 (v0 : Nat) (w0 : Int32) (w1 : Nat) (g : g_S) : Option g_S :=
  (wI g 112 w1 76 w0).bind fun g1 =>
  (L_Y_goTo_36 v0 0 g1).bind <| fun g4 =>
  (vc g4 112 v0 (M_Y_copyRow v0 1 4 g4)).bind fun g5 =>
  (rQ g5 112 v0 8).bind fun z6 =>
  (rQ g5 112 v0 8).bind fun z7 =>
  (aI g5 0 z7 3).bind fun z8 =>
  (sI g5 z6 1 z8).bind fun g9 =>
  (L_Y_goTo_91 v0 0 g9).bind <| fun g12 =>
  (vc g12 112 v0 (M_Y_newPage v0 g12)).bind fun g13 =>
  (wZ g13 112 v0 152 1).bind fun g14 =>
  some g14
set_option maxRecDepth 20000 in
theorem x_Y_goTo_31 {L : Nat} {xs : Nat → Int32} {Q : Option Value → ab_H → Prop} {v0 : Nat} {w0 : Int32} {w1 : Nat} {g : g_S} {out : g_S} (e : k_Y_goTo_31 v0 w0 w1 g = some out) (c : Q none (hp out)) : wp (ab_ext L xs) J_Y_goTo 31 [(0, .ref v0)] [.int w0, .ref w1] (hp g) Q := by
  unfold k_Y_goTo_31 at e
  refine x_pI e rfl rfl fw_12_76 rfl (fun g1 e => ?_)
  refine wp_p (j := J_Y_goTo) 2 (pc' := 36) (lv' := [(1, .int 0), (0, .ref v0)]) (st' := []) rfl ?_
  obtain ⟨g4, h3, e⟩ := bd e
  refine wp_lv (lv' := [(0, .ref v0), (1, .int 0)]) rfl ⟨rfl, rfl, trivial⟩ ?_
  refine l_Y_goTo_36 h3 ?_
  show wp (ab_ext L xs) J_Y_goTo 71 [(0, .ref v0)] [] (hp g4) Q
  refine wp_p (j := J_Y_goTo) 3 (pc' := 74) (lv' := [(0, .ref v0)]) (st' := [.int 4, .int 1, .ref v0]) rfl ?_
  refine x_cv0 (As := [.int 1, .int 4]) (rest := []) e rfl rfl rfl rfl rfl rfl (fun h => d_Y_copyRow h ⟨rfl, rfl⟩) (fun g5 e => ?_)
  refine wp_p (j := J_Y_goTo) 1 (pc' := 78) (lv' := [(0, .ref v0)]) (st' := [.ref v0]) rfl ?_
  refine x_gQ e rfl rfl fd_12_8 rfl (fun z6 e => ?_)
  refine wp_p (j := J_Y_goTo) 2 (pc' := 83) (lv' := [(0, .ref v0)]) (st' := [.ref v0, .int 1, .ref z6]) rfl ?_
  refine x_gQ e rfl rfl fd_12_8 rfl (fun z7 e => ?_)
  refine wp_p (j := J_Y_goTo) 1 (pc' := 87) (lv' := [(0, .ref v0)]) (st' := [.int 3, .ref z7, .int 1, .ref z6]) rfl ?_
  refine x_aI e rfl rfl (fun z8 e => ?_)
  refine x_sI e rfl rfl (fun g9 e => ?_)
  refine wp_p (j := J_Y_goTo) 2 (pc' := 91) (lv' := [(1, .int 0), (0, .ref v0)]) (st' := []) rfl ?_
  obtain ⟨g12, h11, e⟩ := bd e
  refine wp_lv (lv' := [(0, .ref v0), (1, .int 0)]) rfl ⟨rfl, rfl, trivial⟩ ?_
  refine l_Y_goTo_91 h11 ?_
  show wp (ab_ext L xs) J_Y_goTo 127 [(0, .ref v0)] [] (hp g12) Q
  refine wp_p (j := J_Y_goTo) 1 (pc' := 128) (lv' := [(0, .ref v0)]) (st' := [.ref v0]) rfl ?_
  refine x_cv0 (As := []) (rest := []) e rfl rfl rfl rfl rfl rfl (fun h => d_Y_newPage h ⟨rfl, rfl⟩) (fun g13 e => ?_)
  refine wp_p (j := J_Y_goTo) 2 (pc' := 133) (lv' := [(0, .ref v0)]) (st' := [.int 1, .ref v0]) rfl ?_
  refine x_pZ e rfl rfl fw_12_152 rfl (fun g14 e => ?_)
  have e := Option.some.inj e; subst e; exact wp_vret rfl rfl c
noncomputable def M_Y_goTo (v0 : Nat) (g : g_S) : Option g_S :=
  (vc g 112 v0 (M_Y_copyRow v0 3 0 g)).bind fun g1 =>
  (vc g1 112 v0 (M_Y_fetch v0 g1)).bind fun g2 =>
  (rI g2 112 v0 44).bind fun z3 =>
  if z3 < 0 then
    k_Y_goTo_31 v0 0 v0 g2
  else
    (rQ g2 112 v0 18).bind fun z4 =>
    (rI g2 112 v0 44).bind fun z5 =>
    (aI g2 0 z4 z5).bind fun z6 =>
    k_Y_goTo_31 v0 z6 v0 g2
set_option maxRecDepth 20000 in
theorem d_Y_goTo {L : Nat} {xs : Nat → Int32} {Q : Option Value → ab_H → Prop} {v0 : Nat} {g : g_S} {out : g_S} (e : M_Y_goTo v0 g = some out) (c : Q none (hp out)) : mw (ab_ext L xs) J_Y_goTo [.ref v0] (hp g) Q := by
  unfold M_Y_goTo at e
  refine wp_p (j := J_Y_goTo) 3 (pc' := 3) (lv' := [(0, .ref v0)]) (st' := [.int 0, .int 3, .ref v0]) rfl ?_
  refine x_cv0 (As := [.int 3, .int 0]) (rest := []) e rfl rfl rfl rfl rfl rfl (fun h => d_Y_copyRow h ⟨rfl, rfl⟩) (fun g1 e => ?_)
  refine wp_p (j := J_Y_goTo) 1 (pc' := 7) (lv' := [(0, .ref v0)]) (st' := [.ref v0]) rfl ?_
  refine x_cv0 (As := []) (rest := []) e rfl rfl rfl rfl rfl rfl (fun h => d_Y_fetch h ⟨rfl, rfl⟩) (fun g2 e => ?_)
  refine wp_p (j := J_Y_goTo) 2 (pc' := 12) (lv' := [(0, .ref v0)]) (st' := [.ref v0, .ref v0]) rfl ?_
  refine x_gI e rfl rfl fd_12_44 rfl (fun z3 e => ?_)
  refine z_ge e rfl (fun e => ?_) (fun e => ?_)
  · refine wp_p (j := J_Y_goTo) 2 (pc' := 31) (lv' := [(0, .ref v0)]) (st' := [.int 0, .ref v0]) rfl ?_
    exact wp_lv (lv' := [(0, .ref v0)]) rfl ⟨rfl, trivial⟩ (x_Y_goTo_31 e c)
  · refine wp_p (j := J_Y_goTo) 1 (pc' := 23) (lv' := [(0, .ref v0)]) (st' := [.ref v0, .ref v0]) rfl ?_
    refine x_gQ e rfl rfl fd_12_18 rfl (fun z4 e => ?_)
    refine wp_p (j := J_Y_goTo) 1 (pc' := 27) (lv' := [(0, .ref v0)]) (st' := [.ref v0, .ref z4, .ref v0]) rfl ?_
    refine x_gI e rfl rfl fd_12_44 rfl (fun z5 e => ?_)
    refine x_aI e rfl rfl (fun z6 e => ?_)
    exact wp_lv (lv' := [(0, .ref v0)]) rfl ⟨rfl, trivial⟩ (x_Y_goTo_31 e c)
noncomputable def k_Y_visitResult_29 (v0 : Nat) (g : g_S) : Option g_S :=
  (vc g 112 v0 (M_Y_goTo v0 g)).bind fun g1 =>
  (vc g1 112 v0 (M_Y_remember v0 g1)).bind fun g2 =>
  some g2
set_option maxRecDepth 20000 in
theorem x_Y_visitResult_29 {L : Nat} {xs : Nat → Int32} {Q : Option Value → ab_H → Prop} {v0 : Nat} {g : g_S} {out : g_S} (e : k_Y_visitResult_29 v0 g = some out) (c : Q none (hp out)) : wp (ab_ext L xs) J_Y_visitResult 29 [(0, .ref v0)] [] (hp g) Q := by
  unfold k_Y_visitResult_29 at e
  refine wp_p (j := J_Y_visitResult) 1 (pc' := 30) (lv' := [(0, .ref v0)]) (st' := [.ref v0]) rfl ?_
  refine x_cv0 (As := []) (rest := []) e rfl rfl rfl rfl rfl rfl (fun h => d_Y_goTo h ⟨rfl, rfl⟩) (fun g1 e => ?_)
  refine wp_p (j := J_Y_visitResult) 1 (pc' := 34) (lv' := [(0, .ref v0)]) (st' := [.ref v0]) rfl ?_
  refine x_cv0 (As := []) (rest := []) e rfl rfl rfl rfl rfl rfl (fun h => d_Y_remember h ⟨rfl, rfl⟩) (fun g2 e => ?_)
  have e := Option.some.inj e; subst e; exact wp_vret rfl rfl c
noncomputable def M_Y_visitResult (v0 : Nat) (g : g_S) : Option g_S :=
  (rQ g 112 v0 8).bind fun z1 =>
  (aI g 0 z1 0).bind fun z2 =>
  if 0 < z2 then
    (vc g 112 v0 (M_Y_alike v0 0 1 g)).bind fun z3 =>
    if z3 = 0 then
      k_Y_visitResult_29 v0 g
    else
      (vc g 112 v0 (M_Y_copyRow v0 1 0 g)).bind fun g4 =>
      (vc g4 112 v0 (M_Y_remember v0 g4)).bind fun g5 =>
      some g5
  else
    k_Y_visitResult_29 v0 g
set_option maxRecDepth 20000 in
theorem d_Y_visitResult {L : Nat} {xs : Nat → Int32} {Q : Option Value → ab_H → Prop} {v0 : Nat} {g : g_S} {out : g_S} (e : M_Y_visitResult v0 g = some out) (c : Q none (hp out)) : mw (ab_ext L xs) J_Y_visitResult [.ref v0] (hp g) Q := by
  unfold M_Y_visitResult at e
  refine wp_p (j := J_Y_visitResult) 1 (pc' := 1) (lv' := [(0, .ref v0)]) (st' := [.ref v0]) rfl ?_
  refine x_gQ e rfl rfl fd_12_8 rfl (fun z1 e => ?_)
  refine wp_p (j := J_Y_visitResult) 1 (pc' := 5) (lv' := [(0, .ref v0)]) (st' := [.int 0, .ref z1]) rfl ?_
  refine x_aI e rfl rfl (fun z2 e => ?_)
  refine z_le e rfl (fun e => ?_) (fun e => ?_)
  · refine wp_p (j := J_Y_visitResult) 3 (pc' := 12) (lv' := [(0, .ref v0)]) (st' := [.int 1, .int 0, .ref v0]) rfl ?_
    refine x_cv1 (As := [.int 0, .int 1]) (rest := []) Value.int e rfl rfl rfl rfl rfl rfl (fun h => d_Y_alike h ⟨rfl, rfl⟩) (fun z3 e => ?_)
    refine z_eq e rfl (fun e => ?_) (fun e => ?_)
    · exact wp_lv (lv' := [(0, .ref v0)]) rfl ⟨rfl, trivial⟩ (x_Y_visitResult_29 e c)
    · refine wp_p (j := J_Y_visitResult) 3 (pc' := 21) (lv' := [(0, .ref v0)]) (st' := [.int 0, .int 1, .ref v0]) rfl ?_
      refine x_cv0 (As := [.int 1, .int 0]) (rest := []) e rfl rfl rfl rfl rfl rfl (fun h => d_Y_copyRow h ⟨rfl, rfl⟩) (fun g4 e => ?_)
      refine wp_p (j := J_Y_visitResult) 1 (pc' := 25) (lv' := [(0, .ref v0)]) (st' := [.ref v0]) rfl ?_
      refine x_cv0 (As := []) (rest := []) e rfl rfl rfl rfl rfl rfl (fun h => d_Y_remember h ⟨rfl, rfl⟩) (fun g5 e => ?_)
      have e := Option.some.inj e; subst e; exact wp_vret rfl rfl c
  · exact wp_lv (lv' := [(0, .ref v0)]) rfl ⟨rfl, trivial⟩ (x_Y_visitResult_29 e c)
noncomputable def M_Y_onWay (v0 : Nat) (v1 : Int32) (g : g_S) : Option g_S :=
  (rQ g 112 v0 179).bind fun z1 =>
  (rI g 112 v0 181).bind fun z2 =>
  (sI g z1 z2 v1).bind fun g3 =>
  (rQ g3 112 v0 180).bind fun z4 =>
  (rI g3 112 v0 181).bind fun z5 =>
  (rQ g3 112 v0 55).bind fun z6 =>
  (aI g3 0 z6 v1).bind fun z7 =>
  (sI g3 z4 z5 z7).bind fun g8 =>
  (rI g8 112 v0 181).bind fun z9 =>
  (wI g8 112 v0 181 (z9 + 1)).bind fun g10 =>
  some g10
set_option maxRecDepth 20000 in
theorem d_Y_onWay {L : Nat} {xs : Nat → Int32} {Q : Option Value → ab_H → Prop} {v0 : Nat} {v1 : Int32} {g : g_S} {out : g_S} (e : M_Y_onWay v0 v1 g = some out) (c : Q none (hp out)) : mw (ab_ext L xs) J_Y_onWay [.ref v0, .int v1] (hp g) Q := by
  unfold M_Y_onWay at e
  refine wp_p (j := J_Y_onWay) 1 (pc' := 1) (lv' := [(0, .ref v0), (1, .int v1)]) (st' := [.ref v0]) rfl ?_
  refine x_gQ e rfl rfl fd_12_179 rfl (fun z1 e => ?_)
  refine wp_p (j := J_Y_onWay) 1 (pc' := 5) (lv' := [(0, .ref v0), (1, .int v1)]) (st' := [.ref v0, .ref z1]) rfl ?_
  refine x_gI e rfl rfl fd_12_181 rfl (fun z2 e => ?_)
  refine wp_p (j := J_Y_onWay) 1 (pc' := 9) (lv' := [(0, .ref v0), (1, .int v1)]) (st' := [.int v1, .int z2, .ref z1]) rfl ?_
  refine x_sI e rfl rfl (fun g3 e => ?_)
  refine wp_p (j := J_Y_onWay) 1 (pc' := 11) (lv' := [(0, .ref v0), (1, .int v1)]) (st' := [.ref v0]) rfl ?_
  refine x_gQ e rfl rfl fd_12_180 rfl (fun z4 e => ?_)
  refine wp_p (j := J_Y_onWay) 1 (pc' := 15) (lv' := [(0, .ref v0), (1, .int v1)]) (st' := [.ref v0, .ref z4]) rfl ?_
  refine x_gI e rfl rfl fd_12_181 rfl (fun z5 e => ?_)
  refine wp_p (j := J_Y_onWay) 1 (pc' := 19) (lv' := [(0, .ref v0), (1, .int v1)]) (st' := [.ref v0, .int z5, .ref z4]) rfl ?_
  refine x_gQ e rfl rfl fd_12_55 rfl (fun z6 e => ?_)
  refine wp_p (j := J_Y_onWay) 1 (pc' := 23) (lv' := [(0, .ref v0), (1, .int v1)]) (st' := [.int v1, .ref z6, .int z5, .ref z4]) rfl ?_
  refine x_aI e rfl rfl (fun z7 e => ?_)
  refine x_sI e rfl rfl (fun g8 e => ?_)
  refine wp_p (j := J_Y_onWay) 2 (pc' := 27) (lv' := [(0, .ref v0), (1, .int v1)]) (st' := [.ref v0, .ref v0]) rfl ?_
  refine x_gI e rfl rfl fd_12_181 rfl (fun z9 e => ?_)
  refine wp_p (j := J_Y_onWay) 2 (pc' := 32) (lv' := [(0, .ref v0), (1, .int v1)]) (st' := [.int (z9 + 1), .ref v0]) rfl ?_
  refine x_pI e rfl rfl fw_12_181 rfl (fun g10 e => ?_)
  have e := Option.some.inj e; subst e; exact wp_vret rfl rfl c
def cL_Y_behind_2 (L : Nat) (xs : Nat → Int32) (Q : Option Value → ab_H → Prop) (v0 : Nat) (v2 : Int32) (g : g_S) (out : (Int32) ⊕ (Int32)) : Prop := match out with
  | .inl s => wp (ab_ext L xs) J_Y_behind 2 [(0, .ref v0), (2, .int v2), (3, .int s)] [] (hp g) Q
  | .inr s => wp (ab_ext L xs) J_Y_behind 27 [(0, .ref v0), (2, .int v2), (3, .int s)] [] (hp g) Q
noncomputable def b_Y_behind_2 (v0 : Nat) (v2 : Int32) (v3 : Int32) (g : g_S) : Option ((Int32) ⊕ (Int32)) :=
  if v3 = v2 then
    some (.inr v3)
  else
    (rQ g 112 v0 52).bind fun z1 =>
    (aI g 0 z1 v3).bind fun z2 =>
    if z2 = (-1) then
      (rQ g 112 v0 49).bind fun z3 =>
      (aI g 0 z3 v3).bind fun z4 =>
      some (.inl z4)
    else
      some (.inr v3)
set_option maxRecDepth 20000 in
theorem y_Y_behind_2 {L : Nat} {xs : Nat → Int32} {Q : Option Value → ab_H → Prop} {v0 : Nat} {v2 : Int32} {v3 : Int32} {g : g_S} {out : (Int32) ⊕ (Int32)} (e : b_Y_behind_2 v0 v2 v3 g = some out) (c : cL_Y_behind_2 L xs Q v0 v2 g out) : wp (ab_ext L xs) J_Y_behind 2 [(0, .ref v0), (2, .int v2), (3, .int v3)] [] (hp g) Q := by
  unfold b_Y_behind_2 at e
  refine wp_p (j := J_Y_behind) 2 (pc' := 4) (lv' := [(0, .ref v0), (2, .int v2), (3, .int v3)]) (st' := [.int v2, .int v3]) rfl ?_
  refine x_eq e rfl (fun e => ?_) (fun e => ?_)
  · have e := Option.some.inj e; subst e; exact wp_lv (lv' := [(0, .ref v0), (2, .int v2), (3, .int v3)]) rfl ⟨rfl, rfl, rfl, trivial⟩ c
  · refine wp_p (j := J_Y_behind) 1 (pc' := 8) (lv' := [(0, .ref v0), (2, .int v2), (3, .int v3)]) (st' := [.ref v0]) rfl ?_
    refine x_gQ e rfl rfl fd_12_52 rfl (fun z1 e => ?_)
    refine wp_p (j := J_Y_behind) 1 (pc' := 12) (lv' := [(0, .ref v0), (2, .int v2), (3, .int v3)]) (st' := [.int v3, .ref z1]) rfl ?_
    refine x_aI e rfl rfl (fun z2 e => ?_)
    refine wp_p (j := J_Y_behind) 1 (pc' := 14) (lv' := [(0, .ref v0), (2, .int v2), (3, .int v3)]) (st' := [.int (-1), .int z2]) rfl ?_
    refine x_ne e rfl (fun e => ?_) (fun e => ?_)
    · refine wp_p (j := J_Y_behind) 1 (pc' := 18) (lv' := [(0, .ref v0), (2, .int v2), (3, .int v3)]) (st' := [.ref v0]) rfl ?_
      refine x_gQ e rfl rfl fd_12_49 rfl (fun z3 e => ?_)
      refine wp_p (j := J_Y_behind) 1 (pc' := 22) (lv' := [(0, .ref v0), (2, .int v2), (3, .int v3)]) (st' := [.int v3, .ref z3]) rfl ?_
      refine x_aI e rfl rfl (fun z4 e => ?_)
      refine wp_p (j := J_Y_behind) 2 (pc' := 2) (lv' := [(3, .int z4), (0, .ref v0), (2, .int v2)]) (st' := []) rfl ?_
      have e := Option.some.inj e; subst e; exact wp_lv (lv' := [(0, .ref v0), (2, .int v2), (3, .int z4)]) rfl ⟨rfl, rfl, rfl, trivial⟩ c
    · have e := Option.some.inj e; subst e; exact wp_lv (lv' := [(0, .ref v0), (2, .int v2), (3, .int v3)]) rfl ⟨rfl, rfl, rfl, trivial⟩ c
noncomputable def L_Y_behind_2 (v0 : Nat) (v2 : Int32) (v3 : Int32) (g : g_S) : Option (Int32) := it (fun s : Int32 => b_Y_behind_2 v0 v2 s g) (v3)
theorem l_Y_behind_2 {L : Nat} {xs : Nat → Int32} {Q : Option Value → ab_H → Prop} {v0 : Nat} {v2 : Int32} {v3 : Int32} {g : g_S} {r : Int32} (e : L_Y_behind_2 v0 v2 v3 g = some r) (c : cL_Y_behind_2 L xs Q v0 v2 g (.inr r)) : wp (ab_ext L xs) J_Y_behind 2 [(0, .ref v0), (2, .int v2), (3, .int v3)] [] (hp g) Q :=
  it_wp (P := fun s : Int32 => wp (ab_ext L xs) J_Y_behind 2 [(0, .ref v0), (2, .int v2), (3, .int s)] [] (hp g) Q) (E := fun r => cL_Y_behind_2 L xs Q v0 v2 g (.inr r)) (fun s out e c => y_Y_behind_2 e (by cases out <;> exact c)) e c
theorem L_Y_behind_2_eq (v0 : Nat) (v2 : Int32) (v3 : Int32) (g : g_S) : L_Y_behind_2 v0 v2 v3 g = itc (b_Y_behind_2 v0 v2 v3 g) (fun s => L_Y_behind_2 v0 v2 s g) := it_eq2 (fun s : Int32 => b_Y_behind_2 v0 v2 s g) (v3)
noncomputable def k_Y_behind_27 (v0 : Nat) (v2 : Int32) (v3 : Int32) (g : g_S) : Option Int32 :=
  if v3 = v2 then
    some (-1)
  else
    (rQ g 112 v0 52).bind fun z1 =>
    (aI g 0 z1 v3).bind fun z2 =>
    some z2
set_option maxRecDepth 20000 in
theorem x_Y_behind_27 {L : Nat} {xs : Nat → Int32} {Q : Option Value → ab_H → Prop} {v0 : Nat} {v2 : Int32} {v3 : Int32} {g : g_S} {out : Int32} (e : k_Y_behind_27 v0 v2 v3 g = some out) (c : Q (some (.int out)) (hp g)) : wp (ab_ext L xs) J_Y_behind 27 [(0, .ref v0), (2, .int v2), (3, .int v3)] [] (hp g) Q := by
  unfold k_Y_behind_27 at e
  refine wp_p (j := J_Y_behind) 2 (pc' := 29) (lv' := [(0, .ref v0), (2, .int v2), (3, .int v3)]) (st' := [.int v2, .int v3]) rfl ?_
  refine x_ne e rfl (fun e => ?_) (fun e => ?_)
  · refine wp_p (j := J_Y_behind) 2 (pc' := 42) (lv' := [(0, .ref v0), (2, .int v2), (3, .int v3)]) (st' := [.int (-1)]) rfl ?_
    have e := Option.some.inj e; subst e; exact wp_iret (ty := .int) rfl rfl rfl c
  · refine wp_p (j := J_Y_behind) 1 (pc' := 37) (lv' := [(0, .ref v0), (2, .int v2), (3, .int v3)]) (st' := [.ref v0]) rfl ?_
    refine x_gQ e rfl rfl fd_12_52 rfl (fun z1 e => ?_)
    refine wp_p (j := J_Y_behind) 1 (pc' := 41) (lv' := [(0, .ref v0), (2, .int v2), (3, .int v3)]) (st' := [.int v3, .ref z1]) rfl ?_
    refine x_aI e rfl rfl (fun z2 e => ?_)
    have e := Option.some.inj e; subst e; exact wp_iret (ty := .int) rfl rfl rfl c
noncomputable def M_Y_behind (v0 : Nat) (v1 : Int32) (v2 : Int32) (g : g_S) : Option Int32 :=
  (L_Y_behind_2 v0 v2 v1 g).bind <| fun z3 =>
  k_Y_behind_27 v0 v2 z3 g
set_option maxRecDepth 20000 in
theorem d_Y_behind {L : Nat} {xs : Nat → Int32} {Q : Option Value → ab_H → Prop} {v0 : Nat} {v1 : Int32} {v2 : Int32} {g : g_S} {out : Int32} (e : M_Y_behind v0 v1 v2 g = some out) (c : Q (some (.int out)) (hp g)) : mw (ab_ext L xs) J_Y_behind [.ref v0, .int v1, .int v2] (hp g) Q := by
  unfold M_Y_behind at e
  refine wp_p (j := J_Y_behind) 2 (pc' := 2) (lv' := [(3, .int v1), (0, .ref v0), (1, .int v1), (2, .int v2)]) (st' := []) rfl ?_
  obtain ⟨z3, h2, e⟩ := bd e
  refine wp_lv (lv' := [(0, .ref v0), (2, .int v2), (3, .int v1)]) rfl ⟨rfl, rfl, rfl, trivial⟩ ?_
  refine l_Y_behind_2 h2 ?_
  show wp (ab_ext L xs) J_Y_behind 27 [(0, .ref v0), (2, .int v2), (3, .int z3)] [] (hp g) Q
  exact wp_lv (lv' := [(0, .ref v0), (2, .int v2), (3, .int z3)]) rfl ⟨rfl, rfl, rfl, trivial⟩ (x_Y_behind_27 e c)
noncomputable def M_Y_after (v0 : Nat) (v1 : Int32) (v2 : Int32) (g : g_S) : Option Int32 :=
  (rQ g 112 v0 50).bind fun z1 =>
  (aI g 0 z1 v1).bind fun z2 =>
  if z2 = (-1) then
    (vc g 112 v0 (M_Y_behind v0 v1 v2 g)).bind fun z3 =>
    some z3
  else
    (rQ g 112 v0 50).bind fun z4 =>
    (aI g 0 z4 v1).bind fun z5 =>
    some z5
set_option maxRecDepth 20000 in
theorem d_Y_after {L : Nat} {xs : Nat → Int32} {Q : Option Value → ab_H → Prop} {v0 : Nat} {v1 : Int32} {v2 : Int32} {g : g_S} {out : Int32} (e : M_Y_after v0 v1 v2 g = some out) (c : Q (some (.int out)) (hp g)) : mw (ab_ext L xs) J_Y_after [.ref v0, .int v1, .int v2] (hp g) Q := by
  unfold M_Y_after at e
  refine wp_p (j := J_Y_after) 1 (pc' := 1) (lv' := [(0, .ref v0), (1, .int v1), (2, .int v2)]) (st' := [.ref v0]) rfl ?_
  refine x_gQ e rfl rfl fd_12_50 rfl (fun z1 e => ?_)
  refine wp_p (j := J_Y_after) 1 (pc' := 5) (lv' := [(0, .ref v0), (1, .int v1), (2, .int v2)]) (st' := [.int v1, .ref z1]) rfl ?_
  refine x_aI e rfl rfl (fun z2 e => ?_)
  refine wp_p (j := J_Y_after) 1 (pc' := 7) (lv' := [(0, .ref v0), (1, .int v1), (2, .int v2)]) (st' := [.int (-1), .int z2]) rfl ?_
  refine x_eq e rfl (fun e => ?_) (fun e => ?_)
  · refine wp_p (j := J_Y_after) 3 (pc' := 20) (lv' := [(0, .ref v0), (1, .int v1), (2, .int v2)]) (st' := [.int v2, .int v1, .ref v0]) rfl ?_
    refine x_cv1 (As := [.int v1, .int v2]) (rest := []) Value.int e rfl rfl rfl rfl rfl rfl (fun h => d_Y_behind h ⟨rfl, rfl⟩) (fun z3 e => ?_)
    have e := Option.some.inj e; subst e; exact wp_iret (ty := .int) rfl rfl rfl c
  · refine wp_p (j := J_Y_after) 1 (pc' := 11) (lv' := [(0, .ref v0), (1, .int v1), (2, .int v2)]) (st' := [.ref v0]) rfl ?_
    refine x_gQ e rfl rfl fd_12_50 rfl (fun z4 e => ?_)
    refine wp_p (j := J_Y_after) 1 (pc' := 15) (lv' := [(0, .ref v0), (1, .int v1), (2, .int v2)]) (st' := [.int v1, .ref z4]) rfl ?_
    refine x_aI e rfl rfl (fun z5 e => ?_)
    have e := Option.some.inj e; subst e; exact wp_iret (ty := .int) rfl rfl rfl c
noncomputable def M_Y_isThere (v0 : Nat) (v1 : Int32) (g : g_S) : Option Int32 :=
  (rQ g 112 v0 45).bind fun z1 =>
  (rQ g 112 v0 179).bind fun z2 =>
  (aI g 0 z2 v1).bind fun z3 =>
  (aI g 2 z1 z3).bind fun z4 =>
  if z4 = 0 then
    some 0
  else
    (rQ g 112 v0 55).bind fun z5 =>
    (rQ g 112 v0 179).bind fun z6 =>
    (aI g 0 z6 v1).bind fun z7 =>
    (aI g 0 z5 z7).bind fun z8 =>
    (rQ g 112 v0 180).bind fun z9 =>
    (aI g 0 z9 v1).bind fun z10 =>
    if z8 = z10 then
      some 1
    else
      some 0
set_option maxRecDepth 20000 in
theorem d_Y_isThere {L : Nat} {xs : Nat → Int32} {Q : Option Value → ab_H → Prop} {v0 : Nat} {v1 : Int32} {g : g_S} {out : Int32} (e : M_Y_isThere v0 v1 g = some out) (c : Q (some (.int out)) (hp g)) : mw (ab_ext L xs) J_Y_isThere [.ref v0, .int v1] (hp g) Q := by
  unfold M_Y_isThere at e
  refine wp_p (j := J_Y_isThere) 1 (pc' := 1) (lv' := [(0, .ref v0), (1, .int v1)]) (st' := [.ref v0]) rfl ?_
  refine x_gQ e rfl rfl fd_12_45 rfl (fun z1 e => ?_)
  refine wp_p (j := J_Y_isThere) 1 (pc' := 5) (lv' := [(0, .ref v0), (1, .int v1)]) (st' := [.ref v0, .ref z1]) rfl ?_
  refine x_gQ e rfl rfl fd_12_179 rfl (fun z2 e => ?_)
  refine wp_p (j := J_Y_isThere) 1 (pc' := 9) (lv' := [(0, .ref v0), (1, .int v1)]) (st' := [.int v1, .ref z2, .ref z1]) rfl ?_
  refine x_aI e rfl rfl (fun z3 e => ?_)
  refine x_aB e rfl (.inr rfl) rfl (fun z4 e => ?_)
  refine z_eq e rfl (fun e => ?_) (fun e => ?_)
  · refine wp_p (j := J_Y_isThere) 1 (pc' := 39) (lv' := [(0, .ref v0), (1, .int v1)]) (st' := [.int 0]) rfl ?_
    have e := Option.some.inj e; subst e; exact wp_iret (ty := .boolean) rfl rfl (by decide) c
  · refine wp_p (j := J_Y_isThere) 1 (pc' := 15) (lv' := [(0, .ref v0), (1, .int v1)]) (st' := [.ref v0]) rfl ?_
    refine x_gQ e rfl rfl fd_12_55 rfl (fun z5 e => ?_)
    refine wp_p (j := J_Y_isThere) 1 (pc' := 19) (lv' := [(0, .ref v0), (1, .int v1)]) (st' := [.ref v0, .ref z5]) rfl ?_
    refine x_gQ e rfl rfl fd_12_179 rfl (fun z6 e => ?_)
    refine wp_p (j := J_Y_isThere) 1 (pc' := 23) (lv' := [(0, .ref v0), (1, .int v1)]) (st' := [.int v1, .ref z6, .ref z5]) rfl ?_
    refine x_aI e rfl rfl (fun z7 e => ?_)
    refine x_aI e rfl rfl (fun z8 e => ?_)
    refine wp_p (j := J_Y_isThere) 1 (pc' := 26) (lv' := [(0, .ref v0), (1, .int v1)]) (st' := [.ref v0, .int z8]) rfl ?_
    refine x_gQ e rfl rfl fd_12_180 rfl (fun z9 e => ?_)
    refine wp_p (j := J_Y_isThere) 1 (pc' := 30) (lv' := [(0, .ref v0), (1, .int v1)]) (st' := [.int v1, .ref z9, .int z8]) rfl ?_
    refine x_aI e rfl rfl (fun z10 e => ?_)
    refine x_ne e rfl (fun e => ?_) (fun e => ?_)
    · refine wp_p (j := J_Y_isThere) 2 (pc' := 39) (lv' := [(0, .ref v0), (1, .int v1)]) (st' := [.int 1]) rfl ?_
      have e := Option.some.inj e; subst e; exact wp_iret (ty := .boolean) rfl rfl (by decide) c
    · refine wp_p (j := J_Y_isThere) 1 (pc' := 39) (lv' := [(0, .ref v0), (1, .int v1)]) (st' := [.int 0]) rfl ?_
      have e := Option.some.inj e; subst e; exact wp_iret (ty := .boolean) rfl rfl (by decide) c
noncomputable def M_Y_stepWord (v0 : Int32) (g : g_S) : Option Int64 :=
  if v0 = 0 then
    some 680116
  else if v0 = 1 then
    some 20546947
  else if v0 = 2 then
    some 4225
  else if v0 = 3 then
    some 12452
  else if v0 = 4 then
    some 12342
  else if v0 = 5 then
    some 487
  else if v0 = 6 then
    some 20647
  else if v0 = 7 then
    some 21168
  else if v0 = 8 then
    some 132274
  else if v0 = 9 then
    some 664631
  else
    some 540307
set_option maxRecDepth 20000 in
theorem d_Y_stepWord {L : Nat} {xs : Nat → Int32} {Q : Option Value → ab_H → Prop} {v0 : Int32} {g : g_S} {out : Int64} (e : M_Y_stepWord v0 g = some out) (c : Q (some (.long out)) (hp g)) : mw (ab_ext L xs) J_Y_stepWord [.int v0] (hp g) Q := by
  unfold M_Y_stepWord at e
  refine wp_p (j := J_Y_stepWord) 1 (pc' := 1) (lv' := [(0, .int v0)]) (st' := [.int v0]) rfl ?_
  refine x_if e (fun h1 e => ?_) (fun h1 e => ?_)
  · refine x_sw (cst := 0) (pc' := 56) (rest := []) h1 rfl rfl rfl ?_
    refine x_l2 (xl := 680116) rfl rfl rfl ?_
    have e := Option.some.inj e; subst e; exact wp_lret rfl rfl c
  refine x_if e (fun h2 e => ?_) (fun h2 e => ?_)
  · refine x_sw (cst := 1) (pc' := 60) (rest := []) h2 rfl rfl rfl ?_
    refine x_l2 (xl := 20546947) rfl rfl rfl ?_
    have e := Option.some.inj e; subst e; exact wp_lret rfl rfl c
  refine x_if e (fun h3 e => ?_) (fun h3 e => ?_)
  · refine x_sw (cst := 2) (pc' := 64) (rest := []) h3 rfl rfl rfl ?_
    refine x_l2 (xl := 4225) rfl rfl rfl ?_
    have e := Option.some.inj e; subst e; exact wp_lret rfl rfl c
  refine x_if e (fun h4 e => ?_) (fun h4 e => ?_)
  · refine x_sw (cst := 3) (pc' := 68) (rest := []) h4 rfl rfl rfl ?_
    refine x_l2 (xl := 12452) rfl rfl rfl ?_
    have e := Option.some.inj e; subst e; exact wp_lret rfl rfl c
  refine x_if e (fun h5 e => ?_) (fun h5 e => ?_)
  · refine x_sw (cst := 4) (pc' := 72) (rest := []) h5 rfl rfl rfl ?_
    refine x_l2 (xl := 12342) rfl rfl rfl ?_
    have e := Option.some.inj e; subst e; exact wp_lret rfl rfl c
  refine x_if e (fun h6 e => ?_) (fun h6 e => ?_)
  · refine x_sw (cst := 5) (pc' := 76) (rest := []) h6 rfl rfl rfl ?_
    refine x_l2 (xl := 487) rfl rfl rfl ?_
    have e := Option.some.inj e; subst e; exact wp_lret rfl rfl c
  refine x_if e (fun h7 e => ?_) (fun h7 e => ?_)
  · refine x_sw (cst := 6) (pc' := 80) (rest := []) h7 rfl rfl rfl ?_
    refine x_l2 (xl := 20647) rfl rfl rfl ?_
    have e := Option.some.inj e; subst e; exact wp_lret rfl rfl c
  refine x_if e (fun h8 e => ?_) (fun h8 e => ?_)
  · refine x_sw (cst := 7) (pc' := 84) (rest := []) h8 rfl rfl rfl ?_
    refine x_l2 (xl := 21168) rfl rfl rfl ?_
    have e := Option.some.inj e; subst e; exact wp_lret rfl rfl c
  refine x_if e (fun h9 e => ?_) (fun h9 e => ?_)
  · refine x_sw (cst := 8) (pc' := 88) (rest := []) h9 rfl rfl rfl ?_
    refine x_l2 (xl := 132274) rfl rfl rfl ?_
    have e := Option.some.inj e; subst e; exact wp_lret rfl rfl c
  refine x_if e (fun h10 e => ?_) (fun h10 e => ?_)
  · refine x_sw (cst := 9) (pc' := 92) (rest := []) h10 rfl rfl rfl ?_
    refine x_l2 (xl := 664631) rfl rfl rfl ?_
    have e := Option.some.inj e; subst e; exact wp_lret rfl rfl c
  refine wp_b (pc' := 96) (st' := []) rfl rfl ((ts_d (x := v0) (lo := 0) 10 rfl ⟨h1, h2, h3, h4, h5, h6, h7, h8, h9, h10, trivial⟩).trans rfl) ?_
  refine x_l2 (xl := 540307) rfl rfl rfl ?_
  have e := Option.some.inj e; subst e; exact wp_lret rfl rfl c
def cL_Y_waitStep_177 (L : Nat) (xs : Nat → Int32) (Q : Option Value → ab_H → Prop) (v0 : Nat) (v3 : Int32) (v5 : Int32) (out : (Int32 × g_S) ⊕ (g_S)) : Prop := match out with
  | .inl s => wp (ab_ext L xs) J_Y_waitStep 177 [(0, .ref v0), (3, .int v3), (5, .int v5), (6, .int s.1)] [] (hp s.2) Q
  | .inr s => wp (ab_ext L xs) J_Y_waitStep 216 [(0, .ref v0)] [] (hp s) Q
noncomputable def b_Y_waitStep_177 (v0 : Nat) (v3 : Int32) (v5 : Int32) (v6 : Int32) (g : g_S) : Option ((Int32 × g_S) ⊕ (g_S)) :=
  if v6 < v5 then
    (rQ g 112 v0 173).bind fun z1 =>
    (rI g 112 v0 166).bind fun z2 =>
    (rQ g 112 v0 159).bind fun z3 =>
    (aI g 1 z3 ((v3 + 1) + v6)).bind fun z4 =>
    (sB g z1 ((60 * z2) + v6) z4).bind fun g5 =>
    some (.inl (v6 + 1, g5))
  else
    some (.inr g)
set_option maxRecDepth 20000 in
theorem y_Y_waitStep_177 {L : Nat} {xs : Nat → Int32} {Q : Option Value → ab_H → Prop} {v0 : Nat} {v3 : Int32} {v5 : Int32} {v6 : Int32} {g : g_S} {out : (Int32 × g_S) ⊕ (g_S)} (e : b_Y_waitStep_177 v0 v3 v5 v6 g = some out) (c : cL_Y_waitStep_177 L xs Q v0 v3 v5 out) : wp (ab_ext L xs) J_Y_waitStep 177 [(0, .ref v0), (3, .int v3), (5, .int v5), (6, .int v6)] [] (hp g) Q := by
  unfold b_Y_waitStep_177 at e
  refine wp_p (j := J_Y_waitStep) 2 (pc' := 181) (lv' := [(0, .ref v0), (3, .int v3), (5, .int v5), (6, .int v6)]) (st' := [.int v5, .int v6]) rfl ?_
  refine x_ge e rfl (fun e => ?_) (fun e => ?_)
  · refine wp_p (j := J_Y_waitStep) 1 (pc' := 185) (lv' := [(0, .ref v0), (3, .int v3), (5, .int v5), (6, .int v6)]) (st' := [.ref v0]) rfl ?_
    refine x_gQ e rfl rfl fd_12_173 rfl (fun z1 e => ?_)
    refine wp_p (j := J_Y_waitStep) 2 (pc' := 191) (lv' := [(0, .ref v0), (3, .int v3), (5, .int v5), (6, .int v6)]) (st' := [.ref v0, .int 60, .ref z1]) rfl ?_
    refine x_gI e rfl rfl fd_12_166 rfl (fun z2 e => ?_)
    refine wp_p (j := J_Y_waitStep) 4 (pc' := 199) (lv' := [(0, .ref v0), (3, .int v3), (5, .int v5), (6, .int v6)]) (st' := [.ref v0, .int ((60 * z2) + v6), .ref z1]) rfl ?_
    refine x_gQ e rfl rfl fd_12_159 rfl (fun z3 e => ?_)
    refine wp_p (j := J_Y_waitStep) 5 (pc' := 208) (lv' := [(0, .ref v0), (3, .int v3), (5, .int v5), (6, .int v6)]) (st' := [.int ((v3 + 1) + v6), .ref z3, .int ((60 * z2) + v6), .ref z1]) rfl ?_
    refine x_aB e rfl (.inl rfl) rfl (fun z4 e => ?_)
    refine x_sB e rfl rfl (fun g5 e => ?_)
    refine wp_p (j := J_Y_waitStep) 2 (pc' := 177) (lv' := [(6, .int (v6 + 1)), (0, .ref v0), (3, .int v3), (5, .int v5)]) (st' := []) rfl ?_
    have e := Option.some.inj e; subst e; exact wp_lv (lv' := [(0, .ref v0), (3, .int v3), (5, .int v5), (6, .int (v6 + 1))]) rfl ⟨rfl, rfl, rfl, rfl, trivial⟩ c
  · have e := Option.some.inj e; subst e; exact wp_lv (lv' := [(0, .ref v0)]) rfl ⟨rfl, trivial⟩ c
noncomputable def L_Y_waitStep_177 (v0 : Nat) (v3 : Int32) (v5 : Int32) (v6 : Int32) (g : g_S) : Option (g_S) := it (fun s : Int32 × g_S => b_Y_waitStep_177 v0 v3 v5 s.1 s.2) (v6, g)
theorem l_Y_waitStep_177 {L : Nat} {xs : Nat → Int32} {Q : Option Value → ab_H → Prop} {v0 : Nat} {v3 : Int32} {v5 : Int32} {v6 : Int32} {g : g_S} {r : g_S} (e : L_Y_waitStep_177 v0 v3 v5 v6 g = some r) (c : cL_Y_waitStep_177 L xs Q v0 v3 v5 (.inr r)) : wp (ab_ext L xs) J_Y_waitStep 177 [(0, .ref v0), (3, .int v3), (5, .int v5), (6, .int v6)] [] (hp g) Q :=
  it_wp (P := fun s : Int32 × g_S => wp (ab_ext L xs) J_Y_waitStep 177 [(0, .ref v0), (3, .int v3), (5, .int v5), (6, .int s.1)] [] (hp s.2) Q) (E := fun r => cL_Y_waitStep_177 L xs Q v0 v3 v5 (.inr r)) (fun s out e c => y_Y_waitStep_177 e (by cases out <;> exact c)) e c
theorem L_Y_waitStep_177_eq (v0 : Nat) (v3 : Int32) (v5 : Int32) (v6 : Int32) (g : g_S) : L_Y_waitStep_177 v0 v3 v5 v6 g = itc (b_Y_waitStep_177 v0 v3 v5 v6 g) (fun s => L_Y_waitStep_177 v0 v3 v5 s.1 s.2) := it_eq2 (fun s : Int32 × g_S => b_Y_waitStep_177 v0 v3 v5 s.1 s.2) (v6, g)
def cL_Y_waitStep_5 (L : Nat) (xs : Nat → Int32) (Q : Option Value → ab_H → Prop) (v0 : Nat) (v1 : Int32) (v2 : Int32) (g : g_S) (out : (Int32 × Int32) ⊕ (Int32 × Int32)) : Prop := match out with
  | .inl s => wp (ab_ext L xs) J_Y_waitStep 5 [(0, .ref v0), (1, .int v1), (2, .int v2), (3, .int s.1), (4, .int s.2)] [] (hp g) Q
  | .inr s => wp (ab_ext L xs) J_Y_waitStep 52 [(0, .ref v0), (1, .int v1), (2, .int v2), (3, .int s.1), (4, .int s.2)] [] (hp g) Q
noncomputable def b_Y_waitStep_5 (v0 : Nat) (v1 : Int32) (v2 : Int32) (v3 : Int32) (v4 : Int32) (g : g_S) : Option ((Int32 × Int32) ⊕ (Int32 × Int32)) :=
  if v3 < v2 then
    (rQ g 112 v0 159).bind fun z1 =>
    (aI g 1 z1 v3).bind fun z2 =>
    (M_Y_isDigit z2 g).bind fun z3 =>
    if z3 = 0 then
      some (.inr (v3, v4))
    else
      if (v3 - v1) < 4 then
        (rQ g 112 v0 159).bind fun z4 =>
        (aI g 1 z4 v3).bind fun z5 =>
        some (.inl (v3 + 1, ((10 * v4) + z5) - 48))
      else
        some (.inr (v3, v4))
  else
    some (.inr (v3, v4))
set_option maxRecDepth 20000 in
theorem y_Y_waitStep_5 {L : Nat} {xs : Nat → Int32} {Q : Option Value → ab_H → Prop} {v0 : Nat} {v1 : Int32} {v2 : Int32} {v3 : Int32} {v4 : Int32} {g : g_S} {out : (Int32 × Int32) ⊕ (Int32 × Int32)} (e : b_Y_waitStep_5 v0 v1 v2 v3 v4 g = some out) (c : cL_Y_waitStep_5 L xs Q v0 v1 v2 g out) : wp (ab_ext L xs) J_Y_waitStep 5 [(0, .ref v0), (1, .int v1), (2, .int v2), (3, .int v3), (4, .int v4)] [] (hp g) Q := by
  unfold b_Y_waitStep_5 at e
  refine wp_p (j := J_Y_waitStep) 2 (pc' := 7) (lv' := [(0, .ref v0), (1, .int v1), (2, .int v2), (3, .int v3), (4, .int v4)]) (st' := [.int v2, .int v3]) rfl ?_
  refine x_ge e rfl (fun e => ?_) (fun e => ?_)
  · refine wp_p (j := J_Y_waitStep) 1 (pc' := 11) (lv' := [(0, .ref v0), (1, .int v1), (2, .int v2), (3, .int v3), (4, .int v4)]) (st' := [.ref v0]) rfl ?_
    refine x_gQ e rfl rfl fd_12_159 rfl (fun z1 e => ?_)
    refine wp_p (j := J_Y_waitStep) 1 (pc' := 15) (lv' := [(0, .ref v0), (1, .int v1), (2, .int v2), (3, .int v3), (4, .int v4)]) (st' := [.int v3, .ref z1]) rfl ?_
    refine x_aB e rfl (.inl rfl) rfl (fun z2 e => ?_)
    refine x_cs1 (As := [.int z2]) (rest := []) Value.int e rfl rfl rfl rfl rfl (fun h => d_Y_isDigit h ⟨rfl, rfl⟩) (fun z3 e => ?_)
    refine z_eq e rfl (fun e => ?_) (fun e => ?_)
    · have e := Option.some.inj e; subst e; exact wp_lv (lv' := [(0, .ref v0), (1, .int v1), (2, .int v2), (3, .int v3), (4, .int v4)]) rfl ⟨rfl, rfl, rfl, rfl, rfl, trivial⟩ c
    · refine wp_p (j := J_Y_waitStep) 4 (pc' := 26) (lv' := [(0, .ref v0), (1, .int v1), (2, .int v2), (3, .int v3), (4, .int v4)]) (st' := [.int 4, .int (v3 - v1)]) rfl ?_
      refine x_ge e rfl (fun e => ?_) (fun e => ?_)
      · refine wp_p (j := J_Y_waitStep) 4 (pc' := 35) (lv' := [(0, .ref v0), (1, .int v1), (2, .int v2), (3, .int v3), (4, .int v4)]) (st' := [.ref v0, .int (10 * v4)]) rfl ?_
        refine x_gQ e rfl rfl fd_12_159 rfl (fun z4 e => ?_)
        refine wp_p (j := J_Y_waitStep) 1 (pc' := 39) (lv' := [(0, .ref v0), (1, .int v1), (2, .int v2), (3, .int v3), (4, .int v4)]) (st' := [.int v3, .ref z4, .int (10 * v4)]) rfl ?_
        refine x_aB e rfl (.inl rfl) rfl (fun z5 e => ?_)
        refine wp_p (j := J_Y_waitStep) 6 (pc' := 5) (lv' := [(3, .int (v3 + 1)), (4, .int (((10 * v4) + z5) - 48)), (0, .ref v0), (1, .int v1), (2, .int v2)]) (st' := []) rfl ?_
        have e := Option.some.inj e; subst e; exact wp_lv (lv' := [(0, .ref v0), (1, .int v1), (2, .int v2), (3, .int (v3 + 1)), (4, .int (((10 * v4) + z5) - 48))]) rfl ⟨rfl, rfl, rfl, rfl, rfl, trivial⟩ c
      · have e := Option.some.inj e; subst e; exact wp_lv (lv' := [(0, .ref v0), (1, .int v1), (2, .int v2), (3, .int v3), (4, .int v4)]) rfl ⟨rfl, rfl, rfl, rfl, rfl, trivial⟩ c
  · have e := Option.some.inj e; subst e; exact wp_lv (lv' := [(0, .ref v0), (1, .int v1), (2, .int v2), (3, .int v3), (4, .int v4)]) rfl ⟨rfl, rfl, rfl, rfl, rfl, trivial⟩ c
noncomputable def L_Y_waitStep_5 (v0 : Nat) (v1 : Int32) (v2 : Int32) (v3 : Int32) (v4 : Int32) (g : g_S) : Option (Int32 × Int32) := it (fun s : Int32 × Int32 => b_Y_waitStep_5 v0 v1 v2 s.1 s.2 g) (v3, v4)
theorem l_Y_waitStep_5 {L : Nat} {xs : Nat → Int32} {Q : Option Value → ab_H → Prop} {v0 : Nat} {v1 : Int32} {v2 : Int32} {v3 : Int32} {v4 : Int32} {g : g_S} {r : Int32 × Int32} (e : L_Y_waitStep_5 v0 v1 v2 v3 v4 g = some r) (c : cL_Y_waitStep_5 L xs Q v0 v1 v2 g (.inr r)) : wp (ab_ext L xs) J_Y_waitStep 5 [(0, .ref v0), (1, .int v1), (2, .int v2), (3, .int v3), (4, .int v4)] [] (hp g) Q :=
  it_wp (P := fun s : Int32 × Int32 => wp (ab_ext L xs) J_Y_waitStep 5 [(0, .ref v0), (1, .int v1), (2, .int v2), (3, .int s.1), (4, .int s.2)] [] (hp g) Q) (E := fun r => cL_Y_waitStep_5 L xs Q v0 v1 v2 g (.inr r)) (fun s out e c => y_Y_waitStep_5 e (by cases out <;> exact c)) e c
theorem L_Y_waitStep_5_eq (v0 : Nat) (v1 : Int32) (v2 : Int32) (v3 : Int32) (v4 : Int32) (g : g_S) : L_Y_waitStep_5 v0 v1 v2 v3 v4 g = itc (b_Y_waitStep_5 v0 v1 v2 v3 v4 g) (fun s => L_Y_waitStep_5 v0 v1 v2 s.1 s.2 g) := it_eq2 (fun s : Int32 × Int32 => b_Y_waitStep_5 v0 v1 v2 s.1 s.2 g) (v3, v4)
noncomputable def k_Y_waitStep_52 (v0 : Nat) (v1 : Int32) (v2 : Int32) (v3 : Int32) (v4 : Int32) (g : g_S) : Option (Int32 × g_S) :=
  if v3 = v1 then
    some (0, g)
  else
    if v3 < v2 then
      (rQ g 112 v0 159).bind fun z1 =>
      (aI g 1 z1 v3).bind fun z2 =>
      if z2 = 32 then
        (rI g 112 v0 166).bind fun z3 =>
        if z3 = 20 then
          some (1, g)
        else
          (rQ g 112 v0 168).bind fun z4 =>
          (rI g 112 v0 166).bind fun z5 =>
          (rI g 112 v0 25).bind fun z6 =>
          (sI g z4 z5 (z6 + v4)).bind fun g7 =>
          (rQ g7 112 v0 169).bind fun z8 =>
          (rI g7 112 v0 166).bind fun z9 =>
          (rI g7 112 v0 167).bind fun z10 =>
          (sI g7 z8 z9 z10).bind fun g11 =>
          (rI g11 112 v0 167).bind fun z12 =>
          (wI g11 112 v0 167 (z12 + 1)).bind fun g13 =>
          (rQ g13 112 v0 170).bind fun z14 =>
          (rI g13 112 v0 166).bind fun z15 =>
          (rI g13 112 v0 161).bind fun z16 =>
          (sI g13 z14 z15 z16).bind fun g17 =>
          (rQ g17 112 v0 171).bind fun z18 =>
          (rI g17 112 v0 166).bind fun z19 =>
          (rI g17 112 v0 162).bind fun z20 =>
          (sI g17 z18 z19 z20).bind fun g21 =>
          (rQ g21 112 v0 172).bind fun z22 =>
          (rI g21 112 v0 166).bind fun z23 =>
          (sI g21 z22 z23 (mn 60 ((v2 - v3) - 1))).bind fun g24 =>
          (L_Y_waitStep_177 v0 v3 (mn 60 ((v2 - v3) - 1)) 0 g24).bind <| fun g27 =>
          (rI g27 112 v0 166).bind fun z28 =>
          (wI g27 112 v0 166 (z28 + 1)).bind fun g29 =>
          some (1, g29)
      else
        some (0, g)
    else
      some (0, g)
set_option maxRecDepth 20000 in
theorem x_Y_waitStep_52 {L : Nat} {xs : Nat → Int32} {Q : Option Value → ab_H → Prop} {v0 : Nat} {v1 : Int32} {v2 : Int32} {v3 : Int32} {v4 : Int32} {g : g_S} {out : Int32 × g_S} (e : k_Y_waitStep_52 v0 v1 v2 v3 v4 g = some out) (c : Q (some (.int out.1)) (hp out.2)) : wp (ab_ext L xs) J_Y_waitStep 52 [(0, .ref v0), (1, .int v1), (2, .int v2), (3, .int v3), (4, .int v4)] [] (hp g) Q := by
  unfold k_Y_waitStep_52 at e
  refine wp_p (j := J_Y_waitStep) 2 (pc' := 54) (lv' := [(0, .ref v0), (1, .int v1), (2, .int v2), (3, .int v3), (4, .int v4)]) (st' := [.int v1, .int v3]) rfl ?_
  refine x_eq e rfl (fun e => ?_) (fun e => ?_)
  · refine wp_p (j := J_Y_waitStep) 1 (pc' := 74) (lv' := [(0, .ref v0), (1, .int v1), (2, .int v2), (3, .int v3), (4, .int v4)]) (st' := [.int 0]) rfl ?_
    have e := Option.some.inj e; subst e; exact wp_iret (ty := .boolean) rfl rfl (by decide) c
  · refine wp_p (j := J_Y_waitStep) 2 (pc' := 59) (lv' := [(0, .ref v0), (1, .int v1), (2, .int v2), (3, .int v3), (4, .int v4)]) (st' := [.int v2, .int v3]) rfl ?_
    refine x_ge e rfl (fun e => ?_) (fun e => ?_)
    · refine wp_p (j := J_Y_waitStep) 1 (pc' := 63) (lv' := [(0, .ref v0), (1, .int v1), (2, .int v2), (3, .int v3), (4, .int v4)]) (st' := [.ref v0]) rfl ?_
      refine x_gQ e rfl rfl fd_12_159 rfl (fun z1 e => ?_)
      refine wp_p (j := J_Y_waitStep) 1 (pc' := 67) (lv' := [(0, .ref v0), (1, .int v1), (2, .int v2), (3, .int v3), (4, .int v4)]) (st' := [.int v3, .ref z1]) rfl ?_
      refine x_aB e rfl (.inl rfl) rfl (fun z2 e => ?_)
      refine wp_p (j := J_Y_waitStep) 1 (pc' := 70) (lv' := [(0, .ref v0), (1, .int v1), (2, .int v2), (3, .int v3), (4, .int v4)]) (st' := [.int 32, .int z2]) rfl ?_
      refine x_eq e rfl (fun e => ?_) (fun e => ?_)
      · refine wp_p (j := J_Y_waitStep) 1 (pc' := 76) (lv' := [(0, .ref v0), (1, .int v1), (2, .int v2), (3, .int v3), (4, .int v4)]) (st' := [.ref v0]) rfl ?_
        refine x_gI e rfl rfl fd_12_166 rfl (fun z3 e => ?_)
        refine wp_p (j := J_Y_waitStep) 1 (pc' := 81) (lv' := [(0, .ref v0), (1, .int v1), (2, .int v2), (3, .int v3), (4, .int v4)]) (st' := [.int 20, .int z3]) rfl ?_
        refine x_ne e rfl (fun e => ?_) (fun e => ?_)
        · refine wp_p (j := J_Y_waitStep) 1 (pc' := 85) (lv' := [(0, .ref v0), (1, .int v1), (2, .int v2), (3, .int v3), (4, .int v4)]) (st' := [.int 1]) rfl ?_
          have e := Option.some.inj e; subst e; exact wp_iret (ty := .boolean) rfl rfl (by decide) c
        · refine wp_p (j := J_Y_waitStep) 6 (pc' := 93) (lv' := [(0, .ref v0), (1, .int v1), (2, .int v2), (3, .int v3), (4, .int v4)]) (st' := [.int ((v2 - v3) - 1), .int 60]) rfl ?_
          refine x_mn rfl rfl ?_
          refine wp_p (j := J_Y_waitStep) 2 (pc' := 99) (lv' := [(5, .int (mn 60 ((v2 - v3) - 1))), (0, .ref v0), (1, .int v1), (2, .int v2), (3, .int v3), (4, .int v4)]) (st' := [.ref v0]) rfl ?_
          refine x_gQ e rfl rfl fd_12_168 rfl (fun z4 e => ?_)
          refine wp_p (j := J_Y_waitStep) 1 (pc' := 103) (lv' := [(5, .int (mn 60 ((v2 - v3) - 1))), (0, .ref v0), (1, .int v1), (2, .int v2), (3, .int v3), (4, .int v4)]) (st' := [.ref v0, .ref z4]) rfl ?_
          refine x_gI e rfl rfl fd_12_166 rfl (fun z5 e => ?_)
          refine wp_p (j := J_Y_waitStep) 1 (pc' := 107) (lv' := [(5, .int (mn 60 ((v2 - v3) - 1))), (0, .ref v0), (1, .int v1), (2, .int v2), (3, .int v3), (4, .int v4)]) (st' := [.ref v0, .int z5, .ref z4]) rfl ?_
          refine x_gI e rfl rfl fd_12_25 rfl (fun z6 e => ?_)
          refine wp_p (j := J_Y_waitStep) 2 (pc' := 113) (lv' := [(5, .int (mn 60 ((v2 - v3) - 1))), (0, .ref v0), (1, .int v1), (2, .int v2), (3, .int v3), (4, .int v4)]) (st' := [.int (z6 + v4), .int z5, .ref z4]) rfl ?_
          refine x_sI e rfl rfl (fun g7 e => ?_)
          refine wp_p (j := J_Y_waitStep) 1 (pc' := 115) (lv' := [(5, .int (mn 60 ((v2 - v3) - 1))), (0, .ref v0), (1, .int v1), (2, .int v2), (3, .int v3), (4, .int v4)]) (st' := [.ref v0]) rfl ?_
          refine x_gQ e rfl rfl fd_12_169 rfl (fun z8 e => ?_)
          refine wp_p (j := J_Y_waitStep) 1 (pc' := 119) (lv' := [(5, .int (mn 60 ((v2 - v3) - 1))), (0, .ref v0), (1, .int v1), (2, .int v2), (3, .int v3), (4, .int v4)]) (st' := [.ref v0, .ref z8]) rfl ?_
          refine x_gI e rfl rfl fd_12_166 rfl (fun z9 e => ?_)
          refine wp_p (j := J_Y_waitStep) 1 (pc' := 123) (lv' := [(5, .int (mn 60 ((v2 - v3) - 1))), (0, .ref v0), (1, .int v1), (2, .int v2), (3, .int v3), (4, .int v4)]) (st' := [.ref v0, .int z9, .ref z8]) rfl ?_
          refine x_gI e rfl rfl fd_12_167 rfl (fun z10 e => ?_)
          refine x_sI e rfl rfl (fun g11 e => ?_)
          refine wp_p (j := J_Y_waitStep) 2 (pc' := 129) (lv' := [(5, .int (mn 60 ((v2 - v3) - 1))), (0, .ref v0), (1, .int v1), (2, .int v2), (3, .int v3), (4, .int v4)]) (st' := [.ref v0, .ref v0]) rfl ?_
          refine x_gI e rfl rfl fd_12_167 rfl (fun z12 e => ?_)
          refine wp_p (j := J_Y_waitStep) 2 (pc' := 134) (lv' := [(5, .int (mn 60 ((v2 - v3) - 1))), (0, .ref v0), (1, .int v1), (2, .int v2), (3, .int v3), (4, .int v4)]) (st' := [.int (z12 + 1), .ref v0]) rfl ?_
          refine x_pI e rfl rfl fw_12_167 rfl (fun g13 e => ?_)
          refine wp_p (j := J_Y_waitStep) 1 (pc' := 138) (lv' := [(5, .int (mn 60 ((v2 - v3) - 1))), (0, .ref v0), (1, .int v1), (2, .int v2), (3, .int v3), (4, .int v4)]) (st' := [.ref v0]) rfl ?_
          refine x_gQ e rfl rfl fd_12_170 rfl (fun z14 e => ?_)
          refine wp_p (j := J_Y_waitStep) 1 (pc' := 142) (lv' := [(5, .int (mn 60 ((v2 - v3) - 1))), (0, .ref v0), (1, .int v1), (2, .int v2), (3, .int v3), (4, .int v4)]) (st' := [.ref v0, .ref z14]) rfl ?_
          refine x_gI e rfl rfl fd_12_166 rfl (fun z15 e => ?_)
          refine wp_p (j := J_Y_waitStep) 1 (pc' := 146) (lv' := [(5, .int (mn 60 ((v2 - v3) - 1))), (0, .ref v0), (1, .int v1), (2, .int v2), (3, .int v3), (4, .int v4)]) (st' := [.ref v0, .int z15, .ref z14]) rfl ?_
          refine x_gI e rfl rfl fd_12_161 rfl (fun z16 e => ?_)
          refine x_sI e rfl rfl (fun g17 e => ?_)
          refine wp_p (j := J_Y_waitStep) 1 (pc' := 151) (lv' := [(5, .int (mn 60 ((v2 - v3) - 1))), (0, .ref v0), (1, .int v1), (2, .int v2), (3, .int v3), (4, .int v4)]) (st' := [.ref v0]) rfl ?_
          refine x_gQ e rfl rfl fd_12_171 rfl (fun z18 e => ?_)
          refine wp_p (j := J_Y_waitStep) 1 (pc' := 155) (lv' := [(5, .int (mn 60 ((v2 - v3) - 1))), (0, .ref v0), (1, .int v1), (2, .int v2), (3, .int v3), (4, .int v4)]) (st' := [.ref v0, .ref z18]) rfl ?_
          refine x_gI e rfl rfl fd_12_166 rfl (fun z19 e => ?_)
          refine wp_p (j := J_Y_waitStep) 1 (pc' := 159) (lv' := [(5, .int (mn 60 ((v2 - v3) - 1))), (0, .ref v0), (1, .int v1), (2, .int v2), (3, .int v3), (4, .int v4)]) (st' := [.ref v0, .int z19, .ref z18]) rfl ?_
          refine x_gI e rfl rfl fd_12_162 rfl (fun z20 e => ?_)
          refine x_sI e rfl rfl (fun g21 e => ?_)
          refine wp_p (j := J_Y_waitStep) 1 (pc' := 164) (lv' := [(5, .int (mn 60 ((v2 - v3) - 1))), (0, .ref v0), (1, .int v1), (2, .int v2), (3, .int v3), (4, .int v4)]) (st' := [.ref v0]) rfl ?_
          refine x_gQ e rfl rfl fd_12_172 rfl (fun z22 e => ?_)
          refine wp_p (j := J_Y_waitStep) 1 (pc' := 168) (lv' := [(5, .int (mn 60 ((v2 - v3) - 1))), (0, .ref v0), (1, .int v1), (2, .int v2), (3, .int v3), (4, .int v4)]) (st' := [.ref v0, .ref z22]) rfl ?_
          refine x_gI e rfl rfl fd_12_166 rfl (fun z23 e => ?_)
          refine wp_p (j := J_Y_waitStep) 1 (pc' := 173) (lv' := [(5, .int (mn 60 ((v2 - v3) - 1))), (0, .ref v0), (1, .int v1), (2, .int v2), (3, .int v3), (4, .int v4)]) (st' := [.int (mn 60 ((v2 - v3) - 1)), .int z23, .ref z22]) rfl ?_
          refine x_sI e rfl rfl (fun g24 e => ?_)
          refine wp_p (j := J_Y_waitStep) 2 (pc' := 177) (lv' := [(6, .int 0), (5, .int (mn 60 ((v2 - v3) - 1))), (0, .ref v0), (1, .int v1), (2, .int v2), (3, .int v3), (4, .int v4)]) (st' := []) rfl ?_
          obtain ⟨g27, h26, e⟩ := bd e
          refine wp_lv (lv' := [(0, .ref v0), (3, .int v3), (5, .int (mn 60 ((v2 - v3) - 1))), (6, .int 0)]) rfl ⟨rfl, rfl, rfl, rfl, trivial⟩ ?_
          refine l_Y_waitStep_177 h26 ?_
          show wp (ab_ext L xs) J_Y_waitStep 216 [(0, .ref v0)] [] (hp g27) Q
          refine wp_p (j := J_Y_waitStep) 2 (pc' := 218) (lv' := [(0, .ref v0)]) (st' := [.ref v0, .ref v0]) rfl ?_
          refine x_gI e rfl rfl fd_12_166 rfl (fun z28 e => ?_)
          refine wp_p (j := J_Y_waitStep) 2 (pc' := 223) (lv' := [(0, .ref v0)]) (st' := [.int (z28 + 1), .ref v0]) rfl ?_
          refine x_pI e rfl rfl fw_12_166 rfl (fun g29 e => ?_)
          refine wp_p (j := J_Y_waitStep) 1 (pc' := 227) (lv' := [(0, .ref v0)]) (st' := [.int 1]) rfl ?_
          have e := Option.some.inj e; subst e; exact wp_iret (ty := .boolean) rfl rfl (by decide) c
      · refine wp_p (j := J_Y_waitStep) 1 (pc' := 74) (lv' := [(0, .ref v0), (1, .int v1), (2, .int v2), (3, .int v3), (4, .int v4)]) (st' := [.int 0]) rfl ?_
        have e := Option.some.inj e; subst e; exact wp_iret (ty := .boolean) rfl rfl (by decide) c
    · refine wp_p (j := J_Y_waitStep) 1 (pc' := 74) (lv' := [(0, .ref v0), (1, .int v1), (2, .int v2), (3, .int v3), (4, .int v4)]) (st' := [.int 0]) rfl ?_
      have e := Option.some.inj e; subst e; exact wp_iret (ty := .boolean) rfl rfl (by decide) c
noncomputable def M_Y_waitStep (v0 : Nat) (v1 : Int32) (v2 : Int32) (g : g_S) : Option (Int32 × g_S) :=
  (L_Y_waitStep_5 v0 v1 v2 v1 0 g).bind <| u2 fun z3 z4 =>
  k_Y_waitStep_52 v0 v1 v2 z3 z4 g
set_option maxRecDepth 20000 in
theorem d_Y_waitStep {L : Nat} {xs : Nat → Int32} {Q : Option Value → ab_H → Prop} {v0 : Nat} {v1 : Int32} {v2 : Int32} {g : g_S} {out : Int32 × g_S} (e : M_Y_waitStep v0 v1 v2 g = some out) (c : Q (some (.int out.1)) (hp out.2)) : mw (ab_ext L xs) J_Y_waitStep [.ref v0, .int v1, .int v2] (hp g) Q := by
  unfold M_Y_waitStep at e
  refine wp_p (j := J_Y_waitStep) 4 (pc' := 5) (lv' := [(4, .int 0), (3, .int v1), (0, .ref v0), (1, .int v1), (2, .int v2)]) (st' := []) rfl ?_
  obtain ⟨s1, h2, e⟩ := bd e
  refine wp_lv (lv' := [(0, .ref v0), (1, .int v1), (2, .int v2), (3, .int v1), (4, .int 0)]) rfl ⟨rfl, rfl, rfl, rfl, rfl, trivial⟩ ?_
  refine l_Y_waitStep_5 h2 ?_
  obtain ⟨z3, z4⟩ := s1
  replace e := u2_e e
  show wp (ab_ext L xs) J_Y_waitStep 52 [(0, .ref v0), (1, .int v1), (2, .int v2), (3, .int z3), (4, .int z4)] [] (hp g) Q
  exact wp_lv (lv' := [(0, .ref v0), (1, .int v1), (2, .int v2), (3, .int z3), (4, .int z4)]) rfl ⟨rfl, rfl, rfl, rfl, rfl, trivial⟩ (x_Y_waitStep_52 e c)
def cL_Y_stored_11 (L : Nat) (xs : Nat → Int32) (Q : Option Value → ab_H → Prop) (v0 : Nat) (v1 : Int32) (v2 : Int32) (v3 : Int32) (g : g_S) (out : (Int32) ⊕ ((Int32) ⊕ (Unit))) : Prop := match out with
  | .inl s => wp (ab_ext L xs) J_Y_stored 11 [(0, .ref v0), (1, .int v1), (2, .int v2), (3, .int v3), (4, .int s)] [] (hp g) Q
  | .inr (.inl s) => wp (ab_ext L xs) J_Y_stored 89 [(4, .int s)] [] (hp g) Q
  | .inr (.inr s) => wp (ab_ext L xs) J_Y_stored 98 [] [] (hp g) Q
noncomputable def b_Y_stored_11 (v0 : Nat) (v1 : Int32) (v2 : Int32) (v3 : Int32) (v4 : Int32) (g : g_S) : Option ((Int32) ⊕ ((Int32) ⊕ (Unit))) :=
  (rI g 112 v0 174).bind fun z1 =>
  if v4 < z1 then
    (rQ g 112 v0 176).bind fun z2 =>
    (aI g 0 z2 v4).bind fun z3 =>
    if z3 = v3 then
      (rQ g 112 v0 175).bind fun z4 =>
      (rQ g 112 v0 6).bind fun z5 =>
      (M_Y_same z4 (24 * v4) z5 152 v3 g).bind fun z6 =>
      if z6 = 0 then
        some (.inl (v4 + 1))
      else
        (rQ g 112 v0 177).bind fun z7 =>
        (aI g 0 z7 v4).bind fun z8 =>
        if z8 = v2 then
          (rQ g 112 v0 175).bind fun z9 =>
          (rQ g 112 v0 159).bind fun z10 =>
          (M_Y_same z9 ((24 * v4) + 8) z10 v1 v2 g).bind fun z11 =>
          if z11 = 0 then
            some (.inl (v4 + 1))
          else
            some (.inr (.inl v4))
        else
          some (.inl (v4 + 1))
    else
      some (.inl (v4 + 1))
  else
    some (.inr (.inr ()))
set_option maxRecDepth 20000 in
theorem y_Y_stored_11 {L : Nat} {xs : Nat → Int32} {Q : Option Value → ab_H → Prop} {v0 : Nat} {v1 : Int32} {v2 : Int32} {v3 : Int32} {v4 : Int32} {g : g_S} {out : (Int32) ⊕ ((Int32) ⊕ (Unit))} (e : b_Y_stored_11 v0 v1 v2 v3 v4 g = some out) (c : cL_Y_stored_11 L xs Q v0 v1 v2 v3 g out) : wp (ab_ext L xs) J_Y_stored 11 [(0, .ref v0), (1, .int v1), (2, .int v2), (3, .int v3), (4, .int v4)] [] (hp g) Q := by
  unfold b_Y_stored_11 at e
  refine wp_p (j := J_Y_stored) 2 (pc' := 14) (lv' := [(0, .ref v0), (1, .int v1), (2, .int v2), (3, .int v3), (4, .int v4)]) (st' := [.ref v0, .int v4]) rfl ?_
  refine x_gI e rfl rfl fd_12_174 rfl (fun z1 e => ?_)
  refine x_ge e rfl (fun e => ?_) (fun e => ?_)
  · refine wp_p (j := J_Y_stored) 1 (pc' := 21) (lv' := [(0, .ref v0), (1, .int v1), (2, .int v2), (3, .int v3), (4, .int v4)]) (st' := [.ref v0]) rfl ?_
    refine x_gQ e rfl rfl fd_12_176 rfl (fun z2 e => ?_)
    refine wp_p (j := J_Y_stored) 1 (pc' := 26) (lv' := [(0, .ref v0), (1, .int v1), (2, .int v2), (3, .int v3), (4, .int v4)]) (st' := [.int v4, .ref z2]) rfl ?_
    refine x_aI e rfl rfl (fun z3 e => ?_)
    refine wp_p (j := J_Y_stored) 1 (pc' := 28) (lv' := [(0, .ref v0), (1, .int v1), (2, .int v2), (3, .int v3), (4, .int v4)]) (st' := [.int v3, .int z3]) rfl ?_
    refine x_ne e rfl (fun e => ?_) (fun e => ?_)
    · refine wp_p (j := J_Y_stored) 1 (pc' := 32) (lv' := [(0, .ref v0), (1, .int v1), (2, .int v2), (3, .int v3), (4, .int v4)]) (st' := [.ref v0]) rfl ?_
      refine x_gQ e rfl rfl fd_12_175 rfl (fun z4 e => ?_)
      refine wp_p (j := J_Y_stored) 4 (pc' := 41) (lv' := [(0, .ref v0), (1, .int v1), (2, .int v2), (3, .int v3), (4, .int v4)]) (st' := [.ref v0, .int (24 * v4), .ref z4]) rfl ?_
      refine x_gQ e rfl rfl fd_12_6 rfl (fun z5 e => ?_)
      refine wp_p (j := J_Y_stored) 2 (pc' := 48) (lv' := [(0, .ref v0), (1, .int v1), (2, .int v2), (3, .int v3), (4, .int v4)]) (st' := [.int v3, .int 152, .ref z5, .int (24 * v4), .ref z4]) rfl ?_
      refine x_cs1 (As := [.ref z4, .int (24 * v4), .ref z5, .int 152, .int v3]) (rest := []) Value.int e rfl rfl rfl rfl rfl (fun h => d_Y_same h ⟨rfl, rfl⟩) (fun z6 e => ?_)
      refine z_eq e rfl (fun e => ?_) (fun e => ?_)
      · refine wp_p (j := J_Y_stored) 2 (pc' := 11) (lv' := [(4, .int (v4 + 1)), (0, .ref v0), (1, .int v1), (2, .int v2), (3, .int v3)]) (st' := []) rfl ?_
        have e := Option.some.inj e; subst e; exact wp_lv (lv' := [(0, .ref v0), (1, .int v1), (2, .int v2), (3, .int v3), (4, .int (v4 + 1))]) rfl ⟨rfl, rfl, rfl, rfl, rfl, trivial⟩ c
      · refine wp_p (j := J_Y_stored) 1 (pc' := 55) (lv' := [(0, .ref v0), (1, .int v1), (2, .int v2), (3, .int v3), (4, .int v4)]) (st' := [.ref v0]) rfl ?_
        refine x_gQ e rfl rfl fd_12_177 rfl (fun z7 e => ?_)
        refine wp_p (j := J_Y_stored) 1 (pc' := 60) (lv' := [(0, .ref v0), (1, .int v1), (2, .int v2), (3, .int v3), (4, .int v4)]) (st' := [.int v4, .ref z7]) rfl ?_
        refine x_aI e rfl rfl (fun z8 e => ?_)
        refine wp_p (j := J_Y_stored) 1 (pc' := 62) (lv' := [(0, .ref v0), (1, .int v1), (2, .int v2), (3, .int v3), (4, .int v4)]) (st' := [.int v2, .int z8]) rfl ?_
        refine x_ne e rfl (fun e => ?_) (fun e => ?_)
        · refine wp_p (j := J_Y_stored) 1 (pc' := 66) (lv' := [(0, .ref v0), (1, .int v1), (2, .int v2), (3, .int v3), (4, .int v4)]) (st' := [.ref v0]) rfl ?_
          refine x_gQ e rfl rfl fd_12_175 rfl (fun z9 e => ?_)
          refine wp_p (j := J_Y_stored) 6 (pc' := 78) (lv' := [(0, .ref v0), (1, .int v1), (2, .int v2), (3, .int v3), (4, .int v4)]) (st' := [.ref v0, .int ((24 * v4) + 8), .ref z9]) rfl ?_
          refine x_gQ e rfl rfl fd_12_159 rfl (fun z10 e => ?_)
          refine wp_p (j := J_Y_stored) 2 (pc' := 83) (lv' := [(0, .ref v0), (1, .int v1), (2, .int v2), (3, .int v3), (4, .int v4)]) (st' := [.int v2, .int v1, .ref z10, .int ((24 * v4) + 8), .ref z9]) rfl ?_
          refine x_cs1 (As := [.ref z9, .int ((24 * v4) + 8), .ref z10, .int v1, .int v2]) (rest := []) Value.int e rfl rfl rfl rfl rfl (fun h => d_Y_same h ⟨rfl, rfl⟩) (fun z11 e => ?_)
          refine z_eq e rfl (fun e => ?_) (fun e => ?_)
          · refine wp_p (j := J_Y_stored) 2 (pc' := 11) (lv' := [(4, .int (v4 + 1)), (0, .ref v0), (1, .int v1), (2, .int v2), (3, .int v3)]) (st' := []) rfl ?_
            have e := Option.some.inj e; subst e; exact wp_lv (lv' := [(0, .ref v0), (1, .int v1), (2, .int v2), (3, .int v3), (4, .int (v4 + 1))]) rfl ⟨rfl, rfl, rfl, rfl, rfl, trivial⟩ c
          · have e := Option.some.inj e; subst e; exact wp_lv (lv' := [(4, .int v4)]) rfl ⟨rfl, trivial⟩ c
        · refine wp_p (j := J_Y_stored) 2 (pc' := 11) (lv' := [(4, .int (v4 + 1)), (0, .ref v0), (1, .int v1), (2, .int v2), (3, .int v3)]) (st' := []) rfl ?_
          have e := Option.some.inj e; subst e; exact wp_lv (lv' := [(0, .ref v0), (1, .int v1), (2, .int v2), (3, .int v3), (4, .int (v4 + 1))]) rfl ⟨rfl, rfl, rfl, rfl, rfl, trivial⟩ c
    · refine wp_p (j := J_Y_stored) 2 (pc' := 11) (lv' := [(4, .int (v4 + 1)), (0, .ref v0), (1, .int v1), (2, .int v2), (3, .int v3)]) (st' := []) rfl ?_
      have e := Option.some.inj e; subst e; exact wp_lv (lv' := [(0, .ref v0), (1, .int v1), (2, .int v2), (3, .int v3), (4, .int (v4 + 1))]) rfl ⟨rfl, rfl, rfl, rfl, rfl, trivial⟩ c
  · have e := Option.some.inj e; subst e; exact wp_lv (lv' := []) rfl trivial c
noncomputable def L_Y_stored_11 (v0 : Nat) (v1 : Int32) (v2 : Int32) (v3 : Int32) (v4 : Int32) (g : g_S) : Option ((Int32) ⊕ (Unit)) := it (fun s : Int32 => b_Y_stored_11 v0 v1 v2 v3 s g) (v4)
theorem l_Y_stored_11 {L : Nat} {xs : Nat → Int32} {Q : Option Value → ab_H → Prop} {v0 : Nat} {v1 : Int32} {v2 : Int32} {v3 : Int32} {v4 : Int32} {g : g_S} {r : (Int32) ⊕ (Unit)} (e : L_Y_stored_11 v0 v1 v2 v3 v4 g = some r) (c : cL_Y_stored_11 L xs Q v0 v1 v2 v3 g (.inr r)) : wp (ab_ext L xs) J_Y_stored 11 [(0, .ref v0), (1, .int v1), (2, .int v2), (3, .int v3), (4, .int v4)] [] (hp g) Q :=
  it_wp (P := fun s : Int32 => wp (ab_ext L xs) J_Y_stored 11 [(0, .ref v0), (1, .int v1), (2, .int v2), (3, .int v3), (4, .int s)] [] (hp g) Q) (E := fun r => cL_Y_stored_11 L xs Q v0 v1 v2 v3 g (.inr r)) (fun s out e c => y_Y_stored_11 e (by cases out <;> exact c)) e c
theorem L_Y_stored_11_eq (v0 : Nat) (v1 : Int32) (v2 : Int32) (v3 : Int32) (v4 : Int32) (g : g_S) : L_Y_stored_11 v0 v1 v2 v3 v4 g = itc (b_Y_stored_11 v0 v1 v2 v3 v4 g) (fun s => L_Y_stored_11 v0 v1 v2 v3 s g) := it_eq2 (fun s : Int32 => b_Y_stored_11 v0 v1 v2 v3 s g) (v4)
noncomputable def M_Y_stored (v0 : Nat) (v1 : Int32) (v2 : Int32) (g : g_S) : Option Int32 :=
  (vc g 112 v0 (M_Y_siteEnd v0 1 g)).bind fun z1 =>
  (L_Y_stored_11 v0 v1 v2 (z1 - 2) 0 g).bind <|
    us (fun z4 =>
    some z4)
    (fun _ =>
    some (-1))
set_option maxRecDepth 20000 in
theorem d_Y_stored {L : Nat} {xs : Nat → Int32} {Q : Option Value → ab_H → Prop} {v0 : Nat} {v1 : Int32} {v2 : Int32} {g : g_S} {out : Int32} (e : M_Y_stored v0 v1 v2 g = some out) (c : Q (some (.int out)) (hp g)) : mw (ab_ext L xs) J_Y_stored [.ref v0, .int v1, .int v2] (hp g) Q := by
  unfold M_Y_stored at e
  refine wp_p (j := J_Y_stored) 2 (pc' := 2) (lv' := [(0, .ref v0), (1, .int v1), (2, .int v2)]) (st' := [.int 1, .ref v0]) rfl ?_
  refine x_cv1 (As := [.int 1]) (rest := []) Value.int e rfl rfl rfl rfl rfl rfl (fun h => d_Y_siteEnd h ⟨rfl, rfl⟩) (fun z1 e => ?_)
  refine wp_p (j := J_Y_stored) 5 (pc' := 11) (lv' := [(4, .int 0), (3, .int (z1 - 2)), (0, .ref v0), (1, .int v1), (2, .int v2)]) (st' := []) rfl ?_
  obtain ⟨s2, h3, e⟩ := bd e
  refine wp_lv (lv' := [(0, .ref v0), (1, .int v1), (2, .int v2), (3, .int (z1 - 2)), (4, .int 0)]) rfl ⟨rfl, rfl, rfl, rfl, rfl, trivial⟩ ?_
  refine l_Y_stored_11 h3 ?_
  rcases s2 with z4 | _
  · replace e := (us_l e)
    show wp (ab_ext L xs) J_Y_stored 89 [(4, .int z4)] [] (hp g) Q
    refine wp_p (j := J_Y_stored) 1 (pc' := 91) (lv' := [(4, .int z4)]) (st' := [.int z4]) rfl ?_
    have e := Option.some.inj e; subst e; exact wp_iret (ty := .int) rfl rfl rfl c
  · replace e := (us_r e)
    show wp (ab_ext L xs) J_Y_stored 98 [] [] (hp g) Q
    refine wp_p (j := J_Y_stored) 1 (pc' := 99) (lv' := []) (st' := [.int (-1)]) rfl ?_
    have e := Option.some.inj e; subst e; exact wp_iret (ty := .int) rfl rfl rfl c
def cL_Y_putStep_117 (L : Nat) (xs : Nat → Int32) (Q : Option Value → ab_H → Prop) (v0 : Nat) (v1 : Int32) (v2 : Int32) (v3 : Int32) (v5 : Int32) (out : (Int32 × g_S) ⊕ (g_S)) : Prop := match out with
  | .inl s => wp (ab_ext L xs) J_Y_putStep 117 [(0, .ref v0), (1, .int v1), (2, .int v2), (3, .int v3), (5, .int v5), (6, .int s.1)] [] (hp s.2) Q
  | .inr s => wp (ab_ext L xs) J_Y_putStep 159 [(0, .ref v0), (1, .int v1), (2, .int v2), (3, .int v3), (5, .int v5)] [] (hp s) Q
noncomputable def b_Y_putStep_117 (v0 : Nat) (v1 : Int32) (v2 : Int32) (v3 : Int32) (v5 : Int32) (v6 : Int32) (g : g_S) : Option ((Int32 × g_S) ⊕ (g_S)) :=
  (rQ g 112 v0 176).bind fun z1 =>
  (aI g 0 z1 v5).bind fun z2 =>
  if v6 < z2 then
    (rQ g 112 v0 175).bind fun z3 =>
    (rQ g 112 v0 6).bind fun z4 =>
    (aI g 1 z4 (152 + v6)).bind fun z5 =>
    (sB g z3 ((24 * v5) + v6) z5).bind fun g6 =>
    some (.inl (v6 + 1, g6))
  else
    some (.inr g)
set_option maxRecDepth 20000 in
theorem y_Y_putStep_117 {L : Nat} {xs : Nat → Int32} {Q : Option Value → ab_H → Prop} {v0 : Nat} {v1 : Int32} {v2 : Int32} {v3 : Int32} {v5 : Int32} {v6 : Int32} {g : g_S} {out : (Int32 × g_S) ⊕ (g_S)} (e : b_Y_putStep_117 v0 v1 v2 v3 v5 v6 g = some out) (c : cL_Y_putStep_117 L xs Q v0 v1 v2 v3 v5 out) : wp (ab_ext L xs) J_Y_putStep 117 [(0, .ref v0), (1, .int v1), (2, .int v2), (3, .int v3), (5, .int v5), (6, .int v6)] [] (hp g) Q := by
  unfold b_Y_putStep_117 at e
  refine wp_p (j := J_Y_putStep) 2 (pc' := 120) (lv' := [(0, .ref v0), (1, .int v1), (2, .int v2), (3, .int v3), (5, .int v5), (6, .int v6)]) (st' := [.ref v0, .int v6]) rfl ?_
  refine x_gQ e rfl rfl fd_12_176 rfl (fun z1 e => ?_)
  refine wp_p (j := J_Y_putStep) 1 (pc' := 125) (lv' := [(0, .ref v0), (1, .int v1), (2, .int v2), (3, .int v3), (5, .int v5), (6, .int v6)]) (st' := [.int v5, .ref z1, .int v6]) rfl ?_
  refine x_aI e rfl rfl (fun z2 e => ?_)
  refine x_ge e rfl (fun e => ?_) (fun e => ?_)
  · refine wp_p (j := J_Y_putStep) 1 (pc' := 130) (lv' := [(0, .ref v0), (1, .int v1), (2, .int v2), (3, .int v3), (5, .int v5), (6, .int v6)]) (st' := [.ref v0]) rfl ?_
    refine x_gQ e rfl rfl fd_12_175 rfl (fun z3 e => ?_)
    refine wp_p (j := J_Y_putStep) 6 (pc' := 142) (lv' := [(0, .ref v0), (1, .int v1), (2, .int v2), (3, .int v3), (5, .int v5), (6, .int v6)]) (st' := [.ref v0, .int ((24 * v5) + v6), .ref z3]) rfl ?_
    refine x_gQ e rfl rfl fd_12_6 rfl (fun z4 e => ?_)
    refine wp_p (j := J_Y_putStep) 3 (pc' := 151) (lv' := [(0, .ref v0), (1, .int v1), (2, .int v2), (3, .int v3), (5, .int v5), (6, .int v6)]) (st' := [.int (152 + v6), .ref z4, .int ((24 * v5) + v6), .ref z3]) rfl ?_
    refine x_aB e rfl (.inl rfl) rfl (fun z5 e => ?_)
    refine x_sB e rfl rfl (fun g6 e => ?_)
    refine wp_p (j := J_Y_putStep) 2 (pc' := 117) (lv' := [(6, .int (v6 + 1)), (0, .ref v0), (1, .int v1), (2, .int v2), (3, .int v3), (5, .int v5)]) (st' := []) rfl ?_
    have e := Option.some.inj e; subst e; exact wp_lv (lv' := [(0, .ref v0), (1, .int v1), (2, .int v2), (3, .int v3), (5, .int v5), (6, .int (v6 + 1))]) rfl ⟨rfl, rfl, rfl, rfl, rfl, rfl, trivial⟩ c
  · have e := Option.some.inj e; subst e; exact wp_lv (lv' := [(0, .ref v0), (1, .int v1), (2, .int v2), (3, .int v3), (5, .int v5)]) rfl ⟨rfl, rfl, rfl, rfl, rfl, trivial⟩ c
noncomputable def L_Y_putStep_117 (v0 : Nat) (v1 : Int32) (v2 : Int32) (v3 : Int32) (v5 : Int32) (v6 : Int32) (g : g_S) : Option (g_S) := it (fun s : Int32 × g_S => b_Y_putStep_117 v0 v1 v2 v3 v5 s.1 s.2) (v6, g)
theorem l_Y_putStep_117 {L : Nat} {xs : Nat → Int32} {Q : Option Value → ab_H → Prop} {v0 : Nat} {v1 : Int32} {v2 : Int32} {v3 : Int32} {v5 : Int32} {v6 : Int32} {g : g_S} {r : g_S} (e : L_Y_putStep_117 v0 v1 v2 v3 v5 v6 g = some r) (c : cL_Y_putStep_117 L xs Q v0 v1 v2 v3 v5 (.inr r)) : wp (ab_ext L xs) J_Y_putStep 117 [(0, .ref v0), (1, .int v1), (2, .int v2), (3, .int v3), (5, .int v5), (6, .int v6)] [] (hp g) Q :=
  it_wp (P := fun s : Int32 × g_S => wp (ab_ext L xs) J_Y_putStep 117 [(0, .ref v0), (1, .int v1), (2, .int v2), (3, .int v3), (5, .int v5), (6, .int s.1)] [] (hp s.2) Q) (E := fun r => cL_Y_putStep_117 L xs Q v0 v1 v2 v3 v5 (.inr r)) (fun s out e c => y_Y_putStep_117 e (by cases out <;> exact c)) e c
theorem L_Y_putStep_117_eq (v0 : Nat) (v1 : Int32) (v2 : Int32) (v3 : Int32) (v5 : Int32) (v6 : Int32) (g : g_S) : L_Y_putStep_117 v0 v1 v2 v3 v5 v6 g = itc (b_Y_putStep_117 v0 v1 v2 v3 v5 v6 g) (fun s => L_Y_putStep_117 v0 v1 v2 v3 v5 s.1 s.2) := it_eq2 (fun s : Int32 × g_S => b_Y_putStep_117 v0 v1 v2 v3 v5 s.1 s.2) (v6, g)
def cL_Y_putStep_162 (L : Nat) (xs : Nat → Int32) (Q : Option Value → ab_H → Prop) (v0 : Nat) (v1 : Int32) (v2 : Int32) (v3 : Int32) (v5 : Int32) (out : (Int32 × g_S) ⊕ (g_S)) : Prop := match out with
  | .inl s => wp (ab_ext L xs) J_Y_putStep 162 [(0, .ref v0), (1, .int v1), (2, .int v2), (3, .int v3), (5, .int v5), (6, .int s.1)] [] (hp s.2) Q
  | .inr s => wp (ab_ext L xs) J_Y_putStep 205 [(0, .ref v0), (2, .int v2), (3, .int v3), (5, .int v5)] [] (hp s) Q
noncomputable def b_Y_putStep_162 (v0 : Nat) (v1 : Int32) (v2 : Int32) (v3 : Int32) (v5 : Int32) (v6 : Int32) (g : g_S) : Option ((Int32 × g_S) ⊕ (g_S)) :=
  (rQ g 112 v0 177).bind fun z1 =>
  (aI g 0 z1 v5).bind fun z2 =>
  if v6 < z2 then
    (rQ g 112 v0 175).bind fun z3 =>
    (rQ g 112 v0 159).bind fun z4 =>
    (aI g 1 z4 (v1 + v6)).bind fun z5 =>
    (sB g z3 (((24 * v5) + 8) + v6) z5).bind fun g6 =>
    some (.inl (v6 + 1, g6))
  else
    some (.inr g)
set_option maxRecDepth 20000 in
theorem y_Y_putStep_162 {L : Nat} {xs : Nat → Int32} {Q : Option Value → ab_H → Prop} {v0 : Nat} {v1 : Int32} {v2 : Int32} {v3 : Int32} {v5 : Int32} {v6 : Int32} {g : g_S} {out : (Int32 × g_S) ⊕ (g_S)} (e : b_Y_putStep_162 v0 v1 v2 v3 v5 v6 g = some out) (c : cL_Y_putStep_162 L xs Q v0 v1 v2 v3 v5 out) : wp (ab_ext L xs) J_Y_putStep 162 [(0, .ref v0), (1, .int v1), (2, .int v2), (3, .int v3), (5, .int v5), (6, .int v6)] [] (hp g) Q := by
  unfold b_Y_putStep_162 at e
  refine wp_p (j := J_Y_putStep) 2 (pc' := 165) (lv' := [(0, .ref v0), (1, .int v1), (2, .int v2), (3, .int v3), (5, .int v5), (6, .int v6)]) (st' := [.ref v0, .int v6]) rfl ?_
  refine x_gQ e rfl rfl fd_12_177 rfl (fun z1 e => ?_)
  refine wp_p (j := J_Y_putStep) 1 (pc' := 170) (lv' := [(0, .ref v0), (1, .int v1), (2, .int v2), (3, .int v3), (5, .int v5), (6, .int v6)]) (st' := [.int v5, .ref z1, .int v6]) rfl ?_
  refine x_aI e rfl rfl (fun z2 e => ?_)
  refine x_ge e rfl (fun e => ?_) (fun e => ?_)
  · refine wp_p (j := J_Y_putStep) 1 (pc' := 175) (lv' := [(0, .ref v0), (1, .int v1), (2, .int v2), (3, .int v3), (5, .int v5), (6, .int v6)]) (st' := [.ref v0]) rfl ?_
    refine x_gQ e rfl rfl fd_12_175 rfl (fun z3 e => ?_)
    refine wp_p (j := J_Y_putStep) 8 (pc' := 190) (lv' := [(0, .ref v0), (1, .int v1), (2, .int v2), (3, .int v3), (5, .int v5), (6, .int v6)]) (st' := [.ref v0, .int (((24 * v5) + 8) + v6), .ref z3]) rfl ?_
    refine x_gQ e rfl rfl fd_12_159 rfl (fun z4 e => ?_)
    refine wp_p (j := J_Y_putStep) 3 (pc' := 197) (lv' := [(0, .ref v0), (1, .int v1), (2, .int v2), (3, .int v3), (5, .int v5), (6, .int v6)]) (st' := [.int (v1 + v6), .ref z4, .int (((24 * v5) + 8) + v6), .ref z3]) rfl ?_
    refine x_aB e rfl (.inl rfl) rfl (fun z5 e => ?_)
    refine x_sB e rfl rfl (fun g6 e => ?_)
    refine wp_p (j := J_Y_putStep) 2 (pc' := 162) (lv' := [(6, .int (v6 + 1)), (0, .ref v0), (1, .int v1), (2, .int v2), (3, .int v3), (5, .int v5)]) (st' := []) rfl ?_
    have e := Option.some.inj e; subst e; exact wp_lv (lv' := [(0, .ref v0), (1, .int v1), (2, .int v2), (3, .int v3), (5, .int v5), (6, .int (v6 + 1))]) rfl ⟨rfl, rfl, rfl, rfl, rfl, rfl, trivial⟩ c
  · have e := Option.some.inj e; subst e; exact wp_lv (lv' := [(0, .ref v0), (2, .int v2), (3, .int v3), (5, .int v5)]) rfl ⟨rfl, rfl, rfl, rfl, trivial⟩ c
noncomputable def L_Y_putStep_162 (v0 : Nat) (v1 : Int32) (v2 : Int32) (v3 : Int32) (v5 : Int32) (v6 : Int32) (g : g_S) : Option (g_S) := it (fun s : Int32 × g_S => b_Y_putStep_162 v0 v1 v2 v3 v5 s.1 s.2) (v6, g)
theorem l_Y_putStep_162 {L : Nat} {xs : Nat → Int32} {Q : Option Value → ab_H → Prop} {v0 : Nat} {v1 : Int32} {v2 : Int32} {v3 : Int32} {v5 : Int32} {v6 : Int32} {g : g_S} {r : g_S} (e : L_Y_putStep_162 v0 v1 v2 v3 v5 v6 g = some r) (c : cL_Y_putStep_162 L xs Q v0 v1 v2 v3 v5 (.inr r)) : wp (ab_ext L xs) J_Y_putStep 162 [(0, .ref v0), (1, .int v1), (2, .int v2), (3, .int v3), (5, .int v5), (6, .int v6)] [] (hp g) Q :=
  it_wp (P := fun s : Int32 × g_S => wp (ab_ext L xs) J_Y_putStep 162 [(0, .ref v0), (1, .int v1), (2, .int v2), (3, .int v3), (5, .int v5), (6, .int s.1)] [] (hp s.2) Q) (E := fun r => cL_Y_putStep_162 L xs Q v0 v1 v2 v3 v5 (.inr r)) (fun s out e c => y_Y_putStep_162 e (by cases out <;> exact c)) e c
theorem L_Y_putStep_162_eq (v0 : Nat) (v1 : Int32) (v2 : Int32) (v3 : Int32) (v5 : Int32) (v6 : Int32) (g : g_S) : L_Y_putStep_162 v0 v1 v2 v3 v5 v6 g = itc (b_Y_putStep_162 v0 v1 v2 v3 v5 v6 g) (fun s => L_Y_putStep_162 v0 v1 v2 v3 v5 s.1 s.2) := it_eq2 (fun s : Int32 × g_S => b_Y_putStep_162 v0 v1 v2 v3 v5 s.1 s.2) (v6, g)
def cL_Y_putStep_220 (L : Nat) (xs : Nat → Int32) (Q : Option Value → ab_H → Prop) (v0 : Nat) (v2 : Int32) (v5 : Int32) (out : (Int32 × g_S) ⊕ (g_S)) : Prop := match out with
  | .inl s => wp (ab_ext L xs) J_Y_putStep 220 [(0, .ref v0), (2, .int v2), (5, .int v5), (6, .int s.1)] [] (hp s.2) Q
  | .inr s => wp (ab_ext L xs) J_Y_putStep 265 [] [] (hp s) Q
noncomputable def b_Y_putStep_220 (v0 : Nat) (v2 : Int32) (v5 : Int32) (v6 : Int32) (g : g_S) : Option ((Int32 × g_S) ⊕ (g_S)) :=
  (rQ g 112 v0 178).bind fun z1 =>
  (aI g 0 z1 v5).bind fun z2 =>
  if v6 < z2 then
    (rQ g 112 v0 175).bind fun z3 =>
    (rQ g 112 v0 159).bind fun z4 =>
    (aI g 1 z4 ((v2 + 1) + v6)).bind fun z5 =>
    (sB g z3 (((24 * v5) + 16) + v6) z5).bind fun g6 =>
    some (.inl (v6 + 1, g6))
  else
    some (.inr g)
set_option maxRecDepth 20000 in
theorem y_Y_putStep_220 {L : Nat} {xs : Nat → Int32} {Q : Option Value → ab_H → Prop} {v0 : Nat} {v2 : Int32} {v5 : Int32} {v6 : Int32} {g : g_S} {out : (Int32 × g_S) ⊕ (g_S)} (e : b_Y_putStep_220 v0 v2 v5 v6 g = some out) (c : cL_Y_putStep_220 L xs Q v0 v2 v5 out) : wp (ab_ext L xs) J_Y_putStep 220 [(0, .ref v0), (2, .int v2), (5, .int v5), (6, .int v6)] [] (hp g) Q := by
  unfold b_Y_putStep_220 at e
  refine wp_p (j := J_Y_putStep) 2 (pc' := 223) (lv' := [(0, .ref v0), (2, .int v2), (5, .int v5), (6, .int v6)]) (st' := [.ref v0, .int v6]) rfl ?_
  refine x_gQ e rfl rfl fd_12_178 rfl (fun z1 e => ?_)
  refine wp_p (j := J_Y_putStep) 1 (pc' := 228) (lv' := [(0, .ref v0), (2, .int v2), (5, .int v5), (6, .int v6)]) (st' := [.int v5, .ref z1, .int v6]) rfl ?_
  refine x_aI e rfl rfl (fun z2 e => ?_)
  refine x_ge e rfl (fun e => ?_) (fun e => ?_)
  · refine wp_p (j := J_Y_putStep) 1 (pc' := 233) (lv' := [(0, .ref v0), (2, .int v2), (5, .int v5), (6, .int v6)]) (st' := [.ref v0]) rfl ?_
    refine x_gQ e rfl rfl fd_12_175 rfl (fun z3 e => ?_)
    refine wp_p (j := J_Y_putStep) 8 (pc' := 248) (lv' := [(0, .ref v0), (2, .int v2), (5, .int v5), (6, .int v6)]) (st' := [.ref v0, .int (((24 * v5) + 16) + v6), .ref z3]) rfl ?_
    refine x_gQ e rfl rfl fd_12_159 rfl (fun z4 e => ?_)
    refine wp_p (j := J_Y_putStep) 5 (pc' := 257) (lv' := [(0, .ref v0), (2, .int v2), (5, .int v5), (6, .int v6)]) (st' := [.int ((v2 + 1) + v6), .ref z4, .int (((24 * v5) + 16) + v6), .ref z3]) rfl ?_
    refine x_aB e rfl (.inl rfl) rfl (fun z5 e => ?_)
    refine x_sB e rfl rfl (fun g6 e => ?_)
    refine wp_p (j := J_Y_putStep) 2 (pc' := 220) (lv' := [(6, .int (v6 + 1)), (0, .ref v0), (2, .int v2), (5, .int v5)]) (st' := []) rfl ?_
    have e := Option.some.inj e; subst e; exact wp_lv (lv' := [(0, .ref v0), (2, .int v2), (5, .int v5), (6, .int (v6 + 1))]) rfl ⟨rfl, rfl, rfl, rfl, trivial⟩ c
  · have e := Option.some.inj e; subst e; exact wp_lv (lv' := []) rfl trivial c
noncomputable def L_Y_putStep_220 (v0 : Nat) (v2 : Int32) (v5 : Int32) (v6 : Int32) (g : g_S) : Option (g_S) := it (fun s : Int32 × g_S => b_Y_putStep_220 v0 v2 v5 s.1 s.2) (v6, g)
theorem l_Y_putStep_220 {L : Nat} {xs : Nat → Int32} {Q : Option Value → ab_H → Prop} {v0 : Nat} {v2 : Int32} {v5 : Int32} {v6 : Int32} {g : g_S} {r : g_S} (e : L_Y_putStep_220 v0 v2 v5 v6 g = some r) (c : cL_Y_putStep_220 L xs Q v0 v2 v5 (.inr r)) : wp (ab_ext L xs) J_Y_putStep 220 [(0, .ref v0), (2, .int v2), (5, .int v5), (6, .int v6)] [] (hp g) Q :=
  it_wp (P := fun s : Int32 × g_S => wp (ab_ext L xs) J_Y_putStep 220 [(0, .ref v0), (2, .int v2), (5, .int v5), (6, .int s.1)] [] (hp s.2) Q) (E := fun r => cL_Y_putStep_220 L xs Q v0 v2 v5 (.inr r)) (fun s out e c => y_Y_putStep_220 e (by cases out <;> exact c)) e c
theorem L_Y_putStep_220_eq (v0 : Nat) (v2 : Int32) (v5 : Int32) (v6 : Int32) (g : g_S) : L_Y_putStep_220 v0 v2 v5 v6 g = itc (b_Y_putStep_220 v0 v2 v5 v6 g) (fun s => L_Y_putStep_220 v0 v2 v5 s.1 s.2) := it_eq2 (fun s : Int32 × g_S => b_Y_putStep_220 v0 v2 v5 s.1 s.2) (v6, g)
noncomputable def k_Y_putStep_205 (v0 : Nat) (v2 : Int32) (v3 : Int32) (v5 : Int32) (g : g_S) : Option (Int32 × g_S) :=
  (rQ g 112 v0 178).bind fun z1 =>
  (sI g z1 v5 ((v3 - v2) - 1)).bind fun g2 =>
  (L_Y_putStep_220 v0 v2 v5 0 g2).bind <| fun g5 =>
  some (1, g5)
set_option maxRecDepth 20000 in
theorem x_Y_putStep_205 {L : Nat} {xs : Nat → Int32} {Q : Option Value → ab_H → Prop} {v0 : Nat} {v2 : Int32} {v3 : Int32} {v5 : Int32} {g : g_S} {out : Int32 × g_S} (e : k_Y_putStep_205 v0 v2 v3 v5 g = some out) (c : Q (some (.int out.1)) (hp out.2)) : wp (ab_ext L xs) J_Y_putStep 205 [(0, .ref v0), (2, .int v2), (3, .int v3), (5, .int v5)] [] (hp g) Q := by
  unfold k_Y_putStep_205 at e
  refine wp_p (j := J_Y_putStep) 1 (pc' := 206) (lv' := [(0, .ref v0), (2, .int v2), (3, .int v3), (5, .int v5)]) (st' := [.ref v0]) rfl ?_
  refine x_gQ e rfl rfl fd_12_178 rfl (fun z1 e => ?_)
  refine wp_p (j := J_Y_putStep) 6 (pc' := 216) (lv' := [(0, .ref v0), (2, .int v2), (3, .int v3), (5, .int v5)]) (st' := [.int ((v3 - v2) - 1), .int v5, .ref z1]) rfl ?_
  refine x_sI e rfl rfl (fun g2 e => ?_)
  refine wp_p (j := J_Y_putStep) 2 (pc' := 220) (lv' := [(6, .int 0), (0, .ref v0), (2, .int v2), (3, .int v3), (5, .int v5)]) (st' := []) rfl ?_
  obtain ⟨g5, h4, e⟩ := bd e
  refine wp_lv (lv' := [(0, .ref v0), (2, .int v2), (5, .int v5), (6, .int 0)]) rfl ⟨rfl, rfl, rfl, rfl, trivial⟩ ?_
  refine l_Y_putStep_220 h4 ?_
  show wp (ab_ext L xs) J_Y_putStep 265 [] [] (hp g5) Q
  refine wp_p (j := J_Y_putStep) 1 (pc' := 266) (lv' := []) (st' := [.int 1]) rfl ?_
  have e := Option.some.inj e; subst e; exact wp_iret (ty := .boolean) rfl rfl (by decide) c
noncomputable def M_Y_putStep (v0 : Nat) (v1 : Int32) (v2 : Int32) (v3 : Int32) (g : g_S) : Option (Int32 × g_S) :=
  if v2 = v3 then
    some (0, g)
  else
    (rQ g 112 v0 159).bind fun z1 =>
    (aI g 1 z1 v2).bind fun z2 =>
    if z2 = 32 then
      (rQ g 112 v0 159).bind fun z3 =>
      (M_Y_nameEnd z3 (v2 + 1) v3 g).bind fun z4 =>
      if z4 = (v2 + 1) then
        some (0, g)
      else
        if z4 = v3 then
          (vc g 112 v0 (M_Y_stored v0 v1 (v2 - v1) g)).bind fun z5 =>
          if z5 = (-1) then
            (rI g 112 v0 174).bind fun z6 =>
            if z6 = 20 then
              some (1, g)
            else
              (rI g 112 v0 174).bind fun z7 =>
              (rI g 112 v0 174).bind fun z8 =>
              (wI g 112 v0 174 (z8 + 1)).bind fun g9 =>
              (rQ g9 112 v0 176).bind fun z10 =>
              (vc g9 112 v0 (M_Y_siteEnd v0 1 g9)).bind fun z11 =>
              (sI g9 z10 z7 (z11 - 2)).bind fun g12 =>
              (rQ g12 112 v0 177).bind fun z13 =>
              (sI g12 z13 z7 (v2 - v1)).bind fun g14 =>
              (L_Y_putStep_117 v0 v1 v2 v3 z7 0 g14).bind <| fun g17 =>
              (L_Y_putStep_162 v0 v1 v2 v3 z7 0 g17).bind <| fun g20 =>
              k_Y_putStep_205 v0 v2 v3 z7 g20
          else
            k_Y_putStep_205 v0 v2 v3 z5 g
        else
          some (0, g)
    else
      some (0, g)
set_option maxRecDepth 20000 in
theorem d_Y_putStep {L : Nat} {xs : Nat → Int32} {Q : Option Value → ab_H → Prop} {v0 : Nat} {v1 : Int32} {v2 : Int32} {v3 : Int32} {g : g_S} {out : Int32 × g_S} (e : M_Y_putStep v0 v1 v2 v3 g = some out) (c : Q (some (.int out.1)) (hp out.2)) : mw (ab_ext L xs) J_Y_putStep [.ref v0, .int v1, .int v2, .int v3] (hp g) Q := by
  unfold M_Y_putStep at e
  refine wp_p (j := J_Y_putStep) 2 (pc' := 2) (lv' := [(0, .ref v0), (1, .int v1), (2, .int v2), (3, .int v3)]) (st' := [.int v3, .int v2]) rfl ?_
  refine x_eq e rfl (fun e => ?_) (fun e => ?_)
  · refine wp_p (j := J_Y_putStep) 1 (pc' := 17) (lv' := [(0, .ref v0), (1, .int v1), (2, .int v2), (3, .int v3)]) (st' := [.int 0]) rfl ?_
    have e := Option.some.inj e; subst e; exact wp_iret (ty := .boolean) rfl rfl (by decide) c
  · refine wp_p (j := J_Y_putStep) 1 (pc' := 6) (lv' := [(0, .ref v0), (1, .int v1), (2, .int v2), (3, .int v3)]) (st' := [.ref v0]) rfl ?_
    refine x_gQ e rfl rfl fd_12_159 rfl (fun z1 e => ?_)
    refine wp_p (j := J_Y_putStep) 1 (pc' := 10) (lv' := [(0, .ref v0), (1, .int v1), (2, .int v2), (3, .int v3)]) (st' := [.int v2, .ref z1]) rfl ?_
    refine x_aB e rfl (.inl rfl) rfl (fun z2 e => ?_)
    refine wp_p (j := J_Y_putStep) 1 (pc' := 13) (lv' := [(0, .ref v0), (1, .int v1), (2, .int v2), (3, .int v3)]) (st' := [.int 32, .int z2]) rfl ?_
    refine x_eq e rfl (fun e => ?_) (fun e => ?_)
    · refine wp_p (j := J_Y_putStep) 1 (pc' := 19) (lv' := [(0, .ref v0), (1, .int v1), (2, .int v2), (3, .int v3)]) (st' := [.ref v0]) rfl ?_
      refine x_gQ e rfl rfl fd_12_159 rfl (fun z3 e => ?_)
      refine wp_p (j := J_Y_putStep) 4 (pc' := 26) (lv' := [(0, .ref v0), (1, .int v1), (2, .int v2), (3, .int v3)]) (st' := [.int v3, .int (v2 + 1), .ref z3]) rfl ?_
      refine x_cs1 (As := [.ref z3, .int (v2 + 1), .int v3]) (rest := []) Value.int e rfl rfl rfl rfl rfl (fun h => d_Y_nameEnd h ⟨rfl, rfl⟩) (fun z4 e => ?_)
      refine wp_p (j := J_Y_putStep) 5 (pc' := 36) (lv' := [(4, .int z4), (0, .ref v0), (1, .int v1), (2, .int v2), (3, .int v3)]) (st' := [.int (v2 + 1), .int z4]) rfl ?_
      refine x_eq e rfl (fun e => ?_) (fun e => ?_)
      · refine wp_p (j := J_Y_putStep) 1 (pc' := 46) (lv' := [(4, .int z4), (0, .ref v0), (1, .int v1), (2, .int v2), (3, .int v3)]) (st' := [.int 0]) rfl ?_
        have e := Option.some.inj e; subst e; exact wp_iret (ty := .boolean) rfl rfl (by decide) c
      · refine wp_p (j := J_Y_putStep) 2 (pc' := 42) (lv' := [(4, .int z4), (0, .ref v0), (1, .int v1), (2, .int v2), (3, .int v3)]) (st' := [.int v3, .int z4]) rfl ?_
        refine x_eq e rfl (fun e => ?_) (fun e => ?_)
        · refine wp_p (j := J_Y_putStep) 5 (pc' := 52) (lv' := [(4, .int z4), (0, .ref v0), (1, .int v1), (2, .int v2), (3, .int v3)]) (st' := [.int (v2 - v1), .int v1, .ref v0]) rfl ?_
          refine x_cv1 (As := [.int v1, .int (v2 - v1)]) (rest := []) Value.int e rfl rfl rfl rfl rfl rfl (fun h => d_Y_stored h ⟨rfl, rfl⟩) (fun z5 e => ?_)
          refine wp_p (j := J_Y_putStep) 3 (pc' := 60) (lv' := [(5, .int z5), (4, .int z4), (0, .ref v0), (1, .int v1), (2, .int v2), (3, .int v3)]) (st' := [.int (-1), .int z5]) rfl ?_
          refine x_ne e rfl (fun e => ?_) (fun e => ?_)
          · refine wp_p (j := J_Y_putStep) 1 (pc' := 64) (lv' := [(5, .int z5), (4, .int z4), (0, .ref v0), (1, .int v1), (2, .int v2), (3, .int v3)]) (st' := [.ref v0]) rfl ?_
            refine x_gI e rfl rfl fd_12_174 rfl (fun z6 e => ?_)
            refine wp_p (j := J_Y_putStep) 1 (pc' := 69) (lv' := [(5, .int z5), (4, .int z4), (0, .ref v0), (1, .int v1), (2, .int v2), (3, .int v3)]) (st' := [.int 20, .int z6]) rfl ?_
            refine x_ne e rfl (fun e => ?_) (fun e => ?_)
            · refine wp_p (j := J_Y_putStep) 1 (pc' := 73) (lv' := [(5, .int z5), (4, .int z4), (0, .ref v0), (1, .int v1), (2, .int v2), (3, .int v3)]) (st' := [.int 1]) rfl ?_
              have e := Option.some.inj e; subst e; exact wp_iret (ty := .boolean) rfl rfl (by decide) c
            · refine wp_p (j := J_Y_putStep) 1 (pc' := 75) (lv' := [(5, .int z5), (4, .int z4), (0, .ref v0), (1, .int v1), (2, .int v2), (3, .int v3)]) (st' := [.ref v0]) rfl ?_
              refine x_gI e rfl rfl fd_12_174 rfl (fun z7 e => ?_)
              refine wp_p (j := J_Y_putStep) 3 (pc' := 82) (lv' := [(5, .int z7), (4, .int z4), (0, .ref v0), (1, .int v1), (2, .int v2), (3, .int v3)]) (st' := [.ref v0, .ref v0]) rfl ?_
              refine x_gI e rfl rfl fd_12_174 rfl (fun z8 e => ?_)
              refine wp_p (j := J_Y_putStep) 2 (pc' := 87) (lv' := [(5, .int z7), (4, .int z4), (0, .ref v0), (1, .int v1), (2, .int v2), (3, .int v3)]) (st' := [.int (z8 + 1), .ref v0]) rfl ?_
              refine x_pI e rfl rfl fw_12_174 rfl (fun g9 e => ?_)
              refine wp_p (j := J_Y_putStep) 1 (pc' := 91) (lv' := [(5, .int z7), (4, .int z4), (0, .ref v0), (1, .int v1), (2, .int v2), (3, .int v3)]) (st' := [.ref v0]) rfl ?_
              refine x_gQ e rfl rfl fd_12_176 rfl (fun z10 e => ?_)
              refine wp_p (j := J_Y_putStep) 3 (pc' := 98) (lv' := [(5, .int z7), (4, .int z4), (0, .ref v0), (1, .int v1), (2, .int v2), (3, .int v3)]) (st' := [.int 1, .ref v0, .int z7, .ref z10]) rfl ?_
              refine x_cv1 (As := [.int 1]) (rest := [.int z7, .ref z10]) Value.int e rfl rfl rfl rfl rfl rfl (fun h => d_Y_siteEnd h ⟨rfl, rfl⟩) (fun z11 e => ?_)
              refine wp_p (j := J_Y_putStep) 2 (pc' := 103) (lv' := [(5, .int z7), (4, .int z4), (0, .ref v0), (1, .int v1), (2, .int v2), (3, .int v3)]) (st' := [.int (z11 - 2), .int z7, .ref z10]) rfl ?_
              refine x_sI e rfl rfl (fun g12 e => ?_)
              refine wp_p (j := J_Y_putStep) 1 (pc' := 105) (lv' := [(5, .int z7), (4, .int z4), (0, .ref v0), (1, .int v1), (2, .int v2), (3, .int v3)]) (st' := [.ref v0]) rfl ?_
              refine x_gQ e rfl rfl fd_12_177 rfl (fun z13 e => ?_)
              refine wp_p (j := J_Y_putStep) 4 (pc' := 113) (lv' := [(5, .int z7), (4, .int z4), (0, .ref v0), (1, .int v1), (2, .int v2), (3, .int v3)]) (st' := [.int (v2 - v1), .int z7, .ref z13]) rfl ?_
              refine x_sI e rfl rfl (fun g14 e => ?_)
              refine wp_p (j := J_Y_putStep) 2 (pc' := 117) (lv' := [(6, .int 0), (5, .int z7), (4, .int z4), (0, .ref v0), (1, .int v1), (2, .int v2), (3, .int v3)]) (st' := []) rfl ?_
              obtain ⟨g17, h16, e⟩ := bd e
              refine wp_lv (lv' := [(0, .ref v0), (1, .int v1), (2, .int v2), (3, .int v3), (5, .int z7), (6, .int 0)]) rfl ⟨rfl, rfl, rfl, rfl, rfl, rfl, trivial⟩ ?_
              refine l_Y_putStep_117 h16 ?_
              show wp (ab_ext L xs) J_Y_putStep 159 [(0, .ref v0), (1, .int v1), (2, .int v2), (3, .int v3), (5, .int z7)] [] (hp g17) Q
              refine wp_p (j := J_Y_putStep) 2 (pc' := 162) (lv' := [(6, .int 0), (0, .ref v0), (1, .int v1), (2, .int v2), (3, .int v3), (5, .int z7)]) (st' := []) rfl ?_
              obtain ⟨g20, h19, e⟩ := bd e
              refine wp_lv (lv' := [(0, .ref v0), (1, .int v1), (2, .int v2), (3, .int v3), (5, .int z7), (6, .int 0)]) rfl ⟨rfl, rfl, rfl, rfl, rfl, rfl, trivial⟩ ?_
              refine l_Y_putStep_162 h19 ?_
              show wp (ab_ext L xs) J_Y_putStep 205 [(0, .ref v0), (2, .int v2), (3, .int v3), (5, .int z7)] [] (hp g20) Q
              exact wp_lv (lv' := [(0, .ref v0), (2, .int v2), (3, .int v3), (5, .int z7)]) rfl ⟨rfl, rfl, rfl, rfl, trivial⟩ (x_Y_putStep_205 e c)
          · exact wp_lv (lv' := [(0, .ref v0), (2, .int v2), (3, .int v3), (5, .int z5)]) rfl ⟨rfl, rfl, rfl, rfl, trivial⟩ (x_Y_putStep_205 e c)
        · refine wp_p (j := J_Y_putStep) 1 (pc' := 46) (lv' := [(4, .int z4), (0, .ref v0), (1, .int v1), (2, .int v2), (3, .int v3)]) (st' := [.int 0]) rfl ?_
          have e := Option.some.inj e; subst e; exact wp_iret (ty := .boolean) rfl rfl (by decide) c
    · refine wp_p (j := J_Y_putStep) 1 (pc' := 17) (lv' := [(0, .ref v0), (1, .int v1), (2, .int v2), (3, .int v3)]) (st' := [.int 0]) rfl ?_
      have e := Option.some.inj e; subst e; exact wp_iret (ty := .boolean) rfl rfl (by decide) c
noncomputable def M_Y_selfIsThere (v0 : Nat) (g : g_S) : Option Int32 :=
  (rI g 112 v0 161).bind fun z1 =>
  if z1 = (-1) then
    some 0
  else
    (rQ g 112 v0 45).bind fun z2 =>
    (rI g 112 v0 161).bind fun z3 =>
    (aI g 2 z2 z3).bind fun z4 =>
    if z4 = 0 then
      some 0
    else
      (rQ g 112 v0 55).bind fun z5 =>
      (rI g 112 v0 161).bind fun z6 =>
      (aI g 0 z5 z6).bind fun z7 =>
      (rI g 112 v0 162).bind fun z8 =>
      if z7 = z8 then
        some 1
      else
        some 0
set_option maxRecDepth 20000 in
theorem d_Y_selfIsThere {L : Nat} {xs : Nat → Int32} {Q : Option Value → ab_H → Prop} {v0 : Nat} {g : g_S} {out : Int32} (e : M_Y_selfIsThere v0 g = some out) (c : Q (some (.int out)) (hp g)) : mw (ab_ext L xs) J_Y_selfIsThere [.ref v0] (hp g) Q := by
  unfold M_Y_selfIsThere at e
  refine wp_p (j := J_Y_selfIsThere) 1 (pc' := 1) (lv' := [(0, .ref v0)]) (st' := [.ref v0]) rfl ?_
  refine x_gI e rfl rfl fd_12_161 rfl (fun z1 e => ?_)
  refine wp_p (j := J_Y_selfIsThere) 1 (pc' := 5) (lv' := [(0, .ref v0)]) (st' := [.int (-1), .int z1]) rfl ?_
  refine x_eq e rfl (fun e => ?_) (fun e => ?_)
  · refine wp_p (j := J_Y_selfIsThere) 1 (pc' := 41) (lv' := [(0, .ref v0)]) (st' := [.int 0]) rfl ?_
    have e := Option.some.inj e; subst e; exact wp_iret (ty := .boolean) rfl rfl (by decide) c
  · refine wp_p (j := J_Y_selfIsThere) 1 (pc' := 9) (lv' := [(0, .ref v0)]) (st' := [.ref v0]) rfl ?_
    refine x_gQ e rfl rfl fd_12_45 rfl (fun z2 e => ?_)
    refine wp_p (j := J_Y_selfIsThere) 1 (pc' := 13) (lv' := [(0, .ref v0)]) (st' := [.ref v0, .ref z2]) rfl ?_
    refine x_gI e rfl rfl fd_12_161 rfl (fun z3 e => ?_)
    refine x_aB e rfl (.inr rfl) rfl (fun z4 e => ?_)
    refine z_eq e rfl (fun e => ?_) (fun e => ?_)
    · refine wp_p (j := J_Y_selfIsThere) 1 (pc' := 41) (lv' := [(0, .ref v0)]) (st' := [.int 0]) rfl ?_
      have e := Option.some.inj e; subst e; exact wp_iret (ty := .boolean) rfl rfl (by decide) c
    · refine wp_p (j := J_Y_selfIsThere) 1 (pc' := 21) (lv' := [(0, .ref v0)]) (st' := [.ref v0]) rfl ?_
      refine x_gQ e rfl rfl fd_12_55 rfl (fun z5 e => ?_)
      refine wp_p (j := J_Y_selfIsThere) 1 (pc' := 25) (lv' := [(0, .ref v0)]) (st' := [.ref v0, .ref z5]) rfl ?_
      refine x_gI e rfl rfl fd_12_161 rfl (fun z6 e => ?_)
      refine x_aI e rfl rfl (fun z7 e => ?_)
      refine wp_p (j := J_Y_selfIsThere) 1 (pc' := 30) (lv' := [(0, .ref v0)]) (st' := [.ref v0, .int z7]) rfl ?_
      refine x_gI e rfl rfl fd_12_162 rfl (fun z8 e => ?_)
      refine x_ne e rfl (fun e => ?_) (fun e => ?_)
      · refine wp_p (j := J_Y_selfIsThere) 2 (pc' := 41) (lv' := [(0, .ref v0)]) (st' := [.int 1]) rfl ?_
        have e := Option.some.inj e; subst e; exact wp_iret (ty := .boolean) rfl rfl (by decide) c
      · refine wp_p (j := J_Y_selfIsThere) 1 (pc' := 41) (lv' := [(0, .ref v0)]) (st' := [.int 0]) rfl ?_
        have e := Option.some.inj e; subst e; exact wp_iret (ty := .boolean) rfl rfl (by decide) c
def cL_Y_nodeOf_40 (L : Nat) (xs : Nat → Int32) (Q : Option Value → ab_H → Prop) (v0 : Nat) (v1 : Int32) (v2 : Int32) (g : g_S) (out : (Int32) ⊕ ((Int32) ⊕ (Unit))) : Prop := match out with
  | .inl s => wp (ab_ext L xs) J_Y_nodeOf 40 [(0, .ref v0), (1, .int v1), (2, .int v2), (3, .int s)] [] (hp g) Q
  | .inr (.inl s) => wp (ab_ext L xs) J_Y_nodeOf 112 [(3, .int s)] [] (hp g) Q
  | .inr (.inr s) => wp (ab_ext L xs) J_Y_nodeOf 124 [] [] (hp g) Q
noncomputable def k_Y_nodeOf_114 (v0 : Nat) (v1 : Int32) (v2 : Int32) (v3 : Int32) (g : g_S) : Option ((Int32) ⊕ ((Int32) ⊕ (Unit))) :=
  (vc g 112 v0 (M_Y_after v0 v3 0 g)).bind fun z1 =>
  some (.inl z1)
set_option maxRecDepth 20000 in
theorem x_Y_nodeOf_114 {L : Nat} {xs : Nat → Int32} {Q : Option Value → ab_H → Prop} {v0 : Nat} {v1 : Int32} {v2 : Int32} {v3 : Int32} {g : g_S} {out : (Int32) ⊕ ((Int32) ⊕ (Unit))} (e : k_Y_nodeOf_114 v0 v1 v2 v3 g = some out) (c : cL_Y_nodeOf_40 L xs Q v0 v1 v2 g out) : wp (ab_ext L xs) J_Y_nodeOf 114 [(0, .ref v0), (1, .int v1), (2, .int v2), (3, .int v3)] [] (hp g) Q := by
  unfold k_Y_nodeOf_114 at e
  refine wp_p (j := J_Y_nodeOf) 3 (pc' := 117) (lv' := [(0, .ref v0), (1, .int v1), (2, .int v2), (3, .int v3)]) (st' := [.int 0, .int v3, .ref v0]) rfl ?_
  refine x_cv1 (As := [.int v3, .int 0]) (rest := []) Value.int e rfl rfl rfl rfl rfl rfl (fun h => d_Y_after h ⟨rfl, rfl⟩) (fun z1 e => ?_)
  refine wp_p (j := J_Y_nodeOf) 2 (pc' := 40) (lv' := [(3, .int z1), (0, .ref v0), (1, .int v1), (2, .int v2)]) (st' := []) rfl ?_
  have e := Option.some.inj e; subst e; exact wp_lv (lv' := [(0, .ref v0), (1, .int v1), (2, .int v2), (3, .int z1)]) rfl ⟨rfl, rfl, rfl, rfl, trivial⟩ c
noncomputable def k_Y_nodeOf_68 (v0 : Nat) (v1 : Int32) (v2 : Int32) (v3 : Int32) (w0 : Int32) (g : g_S) : Option ((Int32) ⊕ ((Int32) ⊕ (Unit))) :=
  if w0 = (-1) then
    k_Y_nodeOf_114 v0 v1 v2 v3 g
  else
    (rQ g 112 v0 60).bind fun z1 =>
    (aI g 0 z1 w0).bind fun z2 =>
    if z2 = (v2 - v1) then
      (rQ g 112 v0 59).bind fun z3 =>
      (rQ g 112 v0 159).bind fun z4 =>
      (M_Y_same z3 (60 * w0) z4 v1 (v2 - v1) g).bind fun z5 =>
      if z5 = 0 then
        k_Y_nodeOf_114 v0 v1 v2 v3 g
      else
        some (.inr (.inl v3))
    else
      k_Y_nodeOf_114 v0 v1 v2 v3 g
set_option maxRecDepth 20000 in
theorem x_Y_nodeOf_68 {L : Nat} {xs : Nat → Int32} {Q : Option Value → ab_H → Prop} {v0 : Nat} {v1 : Int32} {v2 : Int32} {v3 : Int32} {w0 : Int32} {g : g_S} {out : (Int32) ⊕ ((Int32) ⊕ (Unit))} (e : k_Y_nodeOf_68 v0 v1 v2 v3 w0 g = some out) (c : cL_Y_nodeOf_40 L xs Q v0 v1 v2 g out) : wp (ab_ext L xs) J_Y_nodeOf 68 [(0, .ref v0), (1, .int v1), (2, .int v2), (3, .int v3)] [.int w0] (hp g) Q := by
  unfold k_Y_nodeOf_68 at e
  refine wp_p (j := J_Y_nodeOf) 3 (pc' := 73) (lv' := [(4, .int w0), (0, .ref v0), (1, .int v1), (2, .int v2), (3, .int v3)]) (st' := [.int (-1), .int w0]) rfl ?_
  refine x_eq e rfl (fun e => ?_) (fun e => ?_)
  · exact wp_lv (lv' := [(0, .ref v0), (1, .int v1), (2, .int v2), (3, .int v3)]) rfl ⟨rfl, rfl, rfl, rfl, trivial⟩ (x_Y_nodeOf_114 e c)
  · refine wp_p (j := J_Y_nodeOf) 1 (pc' := 77) (lv' := [(4, .int w0), (0, .ref v0), (1, .int v1), (2, .int v2), (3, .int v3)]) (st' := [.ref v0]) rfl ?_
    refine x_gQ e rfl rfl fd_12_60 rfl (fun z1 e => ?_)
    refine wp_p (j := J_Y_nodeOf) 1 (pc' := 82) (lv' := [(4, .int w0), (0, .ref v0), (1, .int v1), (2, .int v2), (3, .int v3)]) (st' := [.int w0, .ref z1]) rfl ?_
    refine x_aI e rfl rfl (fun z2 e => ?_)
    refine wp_p (j := J_Y_nodeOf) 3 (pc' := 86) (lv' := [(4, .int w0), (0, .ref v0), (1, .int v1), (2, .int v2), (3, .int v3)]) (st' := [.int (v2 - v1), .int z2]) rfl ?_
    refine x_ne e rfl (fun e => ?_) (fun e => ?_)
    · refine wp_p (j := J_Y_nodeOf) 1 (pc' := 90) (lv' := [(4, .int w0), (0, .ref v0), (1, .int v1), (2, .int v2), (3, .int v3)]) (st' := [.ref v0]) rfl ?_
      refine x_gQ e rfl rfl fd_12_59 rfl (fun z3 e => ?_)
      refine wp_p (j := J_Y_nodeOf) 4 (pc' := 99) (lv' := [(4, .int w0), (0, .ref v0), (1, .int v1), (2, .int v2), (3, .int v3)]) (st' := [.ref v0, .int (60 * w0), .ref z3]) rfl ?_
      refine x_gQ e rfl rfl fd_12_159 rfl (fun z4 e => ?_)
      refine wp_p (j := J_Y_nodeOf) 4 (pc' := 106) (lv' := [(4, .int w0), (0, .ref v0), (1, .int v1), (2, .int v2), (3, .int v3)]) (st' := [.int (v2 - v1), .int v1, .ref z4, .int (60 * w0), .ref z3]) rfl ?_
      refine x_cs1 (As := [.ref z3, .int (60 * w0), .ref z4, .int v1, .int (v2 - v1)]) (rest := []) Value.int e rfl rfl rfl rfl rfl (fun h => d_Y_same h ⟨rfl, rfl⟩) (fun z5 e => ?_)
      refine z_eq e rfl (fun e => ?_) (fun e => ?_)
      · exact wp_lv (lv' := [(0, .ref v0), (1, .int v1), (2, .int v2), (3, .int v3)]) rfl ⟨rfl, rfl, rfl, rfl, trivial⟩ (x_Y_nodeOf_114 e c)
      · have e := Option.some.inj e; subst e; exact wp_lv (lv' := [(3, .int v3)]) rfl ⟨rfl, trivial⟩ c
    · exact wp_lv (lv' := [(0, .ref v0), (1, .int v1), (2, .int v2), (3, .int v3)]) rfl ⟨rfl, rfl, rfl, rfl, trivial⟩ (x_Y_nodeOf_114 e c)
noncomputable def b_Y_nodeOf_40 (v0 : Nat) (v1 : Int32) (v2 : Int32) (v3 : Int32) (g : g_S) : Option ((Int32) ⊕ ((Int32) ⊕ (Unit))) :=
  if v3 = (-1) then
    some (.inr (.inr ()))
  else
    (rQ g 112 v0 46).bind fun z1 =>
    (aI g 0 z1 v3).bind fun z2 =>
    if z2 = 17 then
      k_Y_nodeOf_68 v0 v1 v2 v3 (-1) g
    else
      (vc g 112 v0 (M_Y_attributeOf v0 v3 137 g)).bind fun z3 =>
      k_Y_nodeOf_68 v0 v1 v2 v3 z3 g
set_option maxRecDepth 20000 in
theorem y_Y_nodeOf_40 {L : Nat} {xs : Nat → Int32} {Q : Option Value → ab_H → Prop} {v0 : Nat} {v1 : Int32} {v2 : Int32} {v3 : Int32} {g : g_S} {out : (Int32) ⊕ ((Int32) ⊕ (Unit))} (e : b_Y_nodeOf_40 v0 v1 v2 v3 g = some out) (c : cL_Y_nodeOf_40 L xs Q v0 v1 v2 g out) : wp (ab_ext L xs) J_Y_nodeOf 40 [(0, .ref v0), (1, .int v1), (2, .int v2), (3, .int v3)] [] (hp g) Q := by
  unfold b_Y_nodeOf_40 at e
  refine wp_p (j := J_Y_nodeOf) 2 (pc' := 42) (lv' := [(0, .ref v0), (1, .int v1), (2, .int v2), (3, .int v3)]) (st' := [.int (-1), .int v3]) rfl ?_
  refine x_eq e rfl (fun e => ?_) (fun e => ?_)
  · have e := Option.some.inj e; subst e; exact wp_lv (lv' := []) rfl trivial c
  · refine wp_p (j := J_Y_nodeOf) 1 (pc' := 46) (lv' := [(0, .ref v0), (1, .int v1), (2, .int v2), (3, .int v3)]) (st' := [.ref v0]) rfl ?_
    refine x_gQ e rfl rfl fd_12_46 rfl (fun z1 e => ?_)
    refine wp_p (j := J_Y_nodeOf) 1 (pc' := 50) (lv' := [(0, .ref v0), (1, .int v1), (2, .int v2), (3, .int v3)]) (st' := [.int v3, .ref z1]) rfl ?_
    refine x_aI e rfl rfl (fun z2 e => ?_)
    refine wp_p (j := J_Y_nodeOf) 1 (pc' := 53) (lv' := [(0, .ref v0), (1, .int v1), (2, .int v2), (3, .int v3)]) (st' := [.int 17, .int z2]) rfl ?_
    refine x_ne e rfl (fun e => ?_) (fun e => ?_)
    · refine wp_p (j := J_Y_nodeOf) 2 (pc' := 68) (lv' := [(0, .ref v0), (1, .int v1), (2, .int v2), (3, .int v3)]) (st' := [.int (-1)]) rfl ?_
      exact wp_lv (lv' := [(0, .ref v0), (1, .int v1), (2, .int v2), (3, .int v3)]) rfl ⟨rfl, rfl, rfl, rfl, trivial⟩ (x_Y_nodeOf_68 e c)
    · refine wp_p (j := J_Y_nodeOf) 2 (pc' := 62) (lv' := [(0, .ref v0), (1, .int v1), (2, .int v2), (3, .int v3)]) (st' := [.int v3, .ref v0]) rfl ?_
      refine x_l2 (xl := 137) rfl rfl rfl ?_
      refine x_cv1 (As := [.int v3, .long 137]) (rest := []) Value.int e rfl rfl rfl rfl rfl rfl (fun h => d_Y_attributeOf h ⟨rfl, rfl⟩) (fun z3 e => ?_)
      exact wp_lv (lv' := [(0, .ref v0), (1, .int v1), (2, .int v2), (3, .int v3)]) rfl ⟨rfl, rfl, rfl, rfl, trivial⟩ (x_Y_nodeOf_68 e c)
noncomputable def L_Y_nodeOf_40 (v0 : Nat) (v1 : Int32) (v2 : Int32) (v3 : Int32) (g : g_S) : Option ((Int32) ⊕ (Unit)) := it (fun s : Int32 => b_Y_nodeOf_40 v0 v1 v2 s g) (v3)
theorem l_Y_nodeOf_40 {L : Nat} {xs : Nat → Int32} {Q : Option Value → ab_H → Prop} {v0 : Nat} {v1 : Int32} {v2 : Int32} {v3 : Int32} {g : g_S} {r : (Int32) ⊕ (Unit)} (e : L_Y_nodeOf_40 v0 v1 v2 v3 g = some r) (c : cL_Y_nodeOf_40 L xs Q v0 v1 v2 g (.inr r)) : wp (ab_ext L xs) J_Y_nodeOf 40 [(0, .ref v0), (1, .int v1), (2, .int v2), (3, .int v3)] [] (hp g) Q :=
  it_wp (P := fun s : Int32 => wp (ab_ext L xs) J_Y_nodeOf 40 [(0, .ref v0), (1, .int v1), (2, .int v2), (3, .int s)] [] (hp g) Q) (E := fun r => cL_Y_nodeOf_40 L xs Q v0 v1 v2 g (.inr r)) (fun s out e c => y_Y_nodeOf_40 e (by cases out <;> exact c)) e c
theorem L_Y_nodeOf_40_eq (v0 : Nat) (v1 : Int32) (v2 : Int32) (v3 : Int32) (g : g_S) : L_Y_nodeOf_40 v0 v1 v2 v3 g = itc (b_Y_nodeOf_40 v0 v1 v2 v3 g) (fun s => L_Y_nodeOf_40 v0 v1 v2 s g) := it_eq2 (fun s : Int32 => b_Y_nodeOf_40 v0 v1 v2 s g) (v3)
noncomputable def k_Y_nodeOf_38 (v0 : Nat) (v1 : Int32) (v2 : Int32) (g : g_S) : Option Int32 :=
  (L_Y_nodeOf_40 v0 v1 v2 0 g).bind <|
    us (fun z3 =>
    some z3)
    (fun _ =>
    some (-1))
set_option maxRecDepth 20000 in
theorem x_Y_nodeOf_38 {L : Nat} {xs : Nat → Int32} {Q : Option Value → ab_H → Prop} {v0 : Nat} {v1 : Int32} {v2 : Int32} {g : g_S} {out : Int32} (e : k_Y_nodeOf_38 v0 v1 v2 g = some out) (c : Q (some (.int out)) (hp g)) : wp (ab_ext L xs) J_Y_nodeOf 38 [(0, .ref v0), (1, .int v1), (2, .int v2)] [] (hp g) Q := by
  unfold k_Y_nodeOf_38 at e
  refine wp_p (j := J_Y_nodeOf) 2 (pc' := 40) (lv' := [(3, .int 0), (0, .ref v0), (1, .int v1), (2, .int v2)]) (st' := []) rfl ?_
  obtain ⟨s1, h2, e⟩ := bd e
  refine wp_lv (lv' := [(0, .ref v0), (1, .int v1), (2, .int v2), (3, .int 0)]) rfl ⟨rfl, rfl, rfl, rfl, trivial⟩ ?_
  refine l_Y_nodeOf_40 h2 ?_
  rcases s1 with z3 | _
  · replace e := (us_l e)
    show wp (ab_ext L xs) J_Y_nodeOf 112 [(3, .int z3)] [] (hp g) Q
    refine wp_p (j := J_Y_nodeOf) 1 (pc' := 113) (lv' := [(3, .int z3)]) (st' := [.int z3]) rfl ?_
    have e := Option.some.inj e; subst e; exact wp_iret (ty := .int) rfl rfl rfl c
  · replace e := (us_r e)
    show wp (ab_ext L xs) J_Y_nodeOf 124 [] [] (hp g) Q
    refine wp_p (j := J_Y_nodeOf) 1 (pc' := 125) (lv' := []) (st' := [.int (-1)]) rfl ?_
    have e := Option.some.inj e; subst e; exact wp_iret (ty := .int) rfl rfl rfl c
noncomputable def M_Y_nodeOf (v0 : Nat) (v1 : Int32) (v2 : Int32) (g : g_S) : Option Int32 :=
  if (v2 - v1) = 4 then
    (rQ g 112 v0 159).bind fun z1 =>
    (M_Y_isWord z1 v1 v2 209075 g).bind fun z2 =>
    if z2 = 0 then
      k_Y_nodeOf_38 v0 v1 v2 g
    else
      (vc g 112 v0 (M_Y_selfIsThere v0 g)).bind fun z3 =>
      if z3 = 0 then
        some (-1)
      else
        (rI g 112 v0 161).bind fun z4 =>
        some z4
  else
    k_Y_nodeOf_38 v0 v1 v2 g
set_option maxRecDepth 20000 in
theorem d_Y_nodeOf {L : Nat} {xs : Nat → Int32} {Q : Option Value → ab_H → Prop} {v0 : Nat} {v1 : Int32} {v2 : Int32} {g : g_S} {out : Int32} (e : M_Y_nodeOf v0 v1 v2 g = some out) (c : Q (some (.int out)) (hp g)) : mw (ab_ext L xs) J_Y_nodeOf [.ref v0, .int v1, .int v2] (hp g) Q := by
  unfold M_Y_nodeOf at e
  refine wp_p (j := J_Y_nodeOf) 4 (pc' := 4) (lv' := [(0, .ref v0), (1, .int v1), (2, .int v2)]) (st' := [.int 4, .int (v2 - v1)]) rfl ?_
  refine x_ne e rfl (fun e => ?_) (fun e => ?_)
  · refine wp_p (j := J_Y_nodeOf) 1 (pc' := 8) (lv' := [(0, .ref v0), (1, .int v1), (2, .int v2)]) (st' := [.ref v0]) rfl ?_
    refine x_gQ e rfl rfl fd_12_159 rfl (fun z1 e => ?_)
    refine wp_p (j := J_Y_nodeOf) 2 (pc' := 13) (lv' := [(0, .ref v0), (1, .int v1), (2, .int v2)]) (st' := [.int v2, .int v1, .ref z1]) rfl ?_
    refine x_l2 (xl := 209075) rfl rfl rfl ?_
    refine x_cs1 (As := [.ref z1, .int v1, .int v2, .long 209075]) (rest := []) Value.int e rfl rfl rfl rfl rfl (fun h => d_Y_isWord h ⟨rfl, rfl⟩) (fun z2 e => ?_)
    refine z_eq e rfl (fun e => ?_) (fun e => ?_)
    · exact wp_lv (lv' := [(0, .ref v0), (1, .int v1), (2, .int v2)]) rfl ⟨rfl, rfl, rfl, trivial⟩ (x_Y_nodeOf_38 e c)
    · refine wp_p (j := J_Y_nodeOf) 1 (pc' := 23) (lv' := [(0, .ref v0), (1, .int v1), (2, .int v2)]) (st' := [.ref v0]) rfl ?_
      refine x_cv1 (As := []) (rest := []) Value.int e rfl rfl rfl rfl rfl rfl (fun h => d_Y_selfIsThere h ⟨rfl, rfl⟩) (fun z3 e => ?_)
      refine z_eq e rfl (fun e => ?_) (fun e => ?_)
      · refine wp_p (j := J_Y_nodeOf) 1 (pc' := 37) (lv' := [(0, .ref v0), (1, .int v1), (2, .int v2)]) (st' := [.int (-1)]) rfl ?_
        have e := Option.some.inj e; subst e; exact wp_iret (ty := .int) rfl rfl rfl c
      · refine wp_p (j := J_Y_nodeOf) 1 (pc' := 30) (lv' := [(0, .ref v0), (1, .int v1), (2, .int v2)]) (st' := [.ref v0]) rfl ?_
        refine x_gI e rfl rfl fd_12_161 rfl (fun z4 e => ?_)
        refine wp_p (j := J_Y_nodeOf) 1 (pc' := 37) (lv' := [(0, .ref v0), (1, .int v1), (2, .int v2)]) (st' := [.int z4]) rfl ?_
        have e := Option.some.inj e; subst e; exact wp_iret (ty := .int) rfl rfl rfl c
  · exact wp_lv (lv' := [(0, .ref v0), (1, .int v1), (2, .int v2)]) rfl ⟨rfl, rfl, rfl, trivial⟩ (x_Y_nodeOf_38 e c)
def cL_Y_remove_96 (L : Nat) (xs : Nat → Int32) (Q : Option Value → ab_H → Prop) (v0 : Nat) (v1 : Int32) (out : (Int32 × g_S) ⊕ (g_S)) : Prop := match out with
  | .inl s => wp (ab_ext L xs) J_Y_remove 96 [(0, .ref v0), (1, .int v1), (2, .int s.1)] [] (hp s.2) Q
  | .inr s => wp (ab_ext L xs) J_Y_remove 130 [] [] (hp s) Q
noncomputable def b_Y_remove_96 (v0 : Nat) (v1 : Int32) (v2 : Int32) (g : g_S) : Option ((Int32 × g_S) ⊕ (g_S)) :=
  if v2 = (-1) then
    some (.inr g)
  else
    (vc g 112 v0 (M_Y_after v0 v2 v1 g)).bind fun z1 =>
    (rQ g 112 v0 45).bind fun z2 =>
    (sZ g z2 v2 0).bind fun g3 =>
    (rI g3 112 v0 68).bind fun z4 =>
    (wI g3 112 v0 68 (z4 - 1)).bind fun g5 =>
    some (.inl (z1, g5))
set_option maxRecDepth 20000 in
theorem y_Y_remove_96 {L : Nat} {xs : Nat → Int32} {Q : Option Value → ab_H → Prop} {v0 : Nat} {v1 : Int32} {v2 : Int32} {g : g_S} {out : (Int32 × g_S) ⊕ (g_S)} (e : b_Y_remove_96 v0 v1 v2 g = some out) (c : cL_Y_remove_96 L xs Q v0 v1 out) : wp (ab_ext L xs) J_Y_remove 96 [(0, .ref v0), (1, .int v1), (2, .int v2)] [] (hp g) Q := by
  unfold b_Y_remove_96 at e
  refine wp_p (j := J_Y_remove) 2 (pc' := 98) (lv' := [(0, .ref v0), (1, .int v1), (2, .int v2)]) (st' := [.int (-1), .int v2]) rfl ?_
  refine x_eq e rfl (fun e => ?_) (fun e => ?_)
  · have e := Option.some.inj e; subst e; exact wp_lv (lv' := []) rfl trivial c
  · refine wp_p (j := J_Y_remove) 3 (pc' := 104) (lv' := [(0, .ref v0), (1, .int v1), (2, .int v2)]) (st' := [.int v1, .int v2, .ref v0]) rfl ?_
    refine x_cv1 (As := [.int v2, .int v1]) (rest := []) Value.int e rfl rfl rfl rfl rfl rfl (fun h => d_Y_after h ⟨rfl, rfl⟩) (fun z1 e => ?_)
    refine wp_p (j := J_Y_remove) 2 (pc' := 109) (lv' := [(3, .int z1), (0, .ref v0), (1, .int v1), (2, .int v2)]) (st' := [.ref v0]) rfl ?_
    refine x_gQ e rfl rfl fd_12_45 rfl (fun z2 e => ?_)
    refine wp_p (j := J_Y_remove) 2 (pc' := 114) (lv' := [(3, .int z1), (0, .ref v0), (1, .int v1), (2, .int v2)]) (st' := [.int 0, .int v2, .ref z2]) rfl ?_
    refine x_sZ e rfl rfl (fun g3 e => ?_)
    refine wp_p (j := J_Y_remove) 2 (pc' := 117) (lv' := [(3, .int z1), (0, .ref v0), (1, .int v1), (2, .int v2)]) (st' := [.ref v0, .ref v0]) rfl ?_
    refine x_gI e rfl rfl fd_12_68 rfl (fun z4 e => ?_)
    refine wp_p (j := J_Y_remove) 2 (pc' := 122) (lv' := [(3, .int z1), (0, .ref v0), (1, .int v1), (2, .int v2)]) (st' := [.int (z4 - 1), .ref v0]) rfl ?_
    refine x_pI e rfl rfl fw_12_68 rfl (fun g5 e => ?_)
    refine wp_p (j := J_Y_remove) 3 (pc' := 96) (lv' := [(2, .int z1), (3, .int z1), (0, .ref v0), (1, .int v1)]) (st' := []) rfl ?_
    have e := Option.some.inj e; subst e; exact wp_lv (lv' := [(0, .ref v0), (1, .int v1), (2, .int z1)]) rfl ⟨rfl, rfl, rfl, trivial⟩ c
noncomputable def L_Y_remove_96 (v0 : Nat) (v1 : Int32) (v2 : Int32) (g : g_S) : Option (g_S) := it (fun s : Int32 × g_S => b_Y_remove_96 v0 v1 s.1 s.2) (v2, g)
theorem l_Y_remove_96 {L : Nat} {xs : Nat → Int32} {Q : Option Value → ab_H → Prop} {v0 : Nat} {v1 : Int32} {v2 : Int32} {g : g_S} {r : g_S} (e : L_Y_remove_96 v0 v1 v2 g = some r) (c : cL_Y_remove_96 L xs Q v0 v1 (.inr r)) : wp (ab_ext L xs) J_Y_remove 96 [(0, .ref v0), (1, .int v1), (2, .int v2)] [] (hp g) Q :=
  it_wp (P := fun s : Int32 × g_S => wp (ab_ext L xs) J_Y_remove 96 [(0, .ref v0), (1, .int v1), (2, .int s.1)] [] (hp s.2) Q) (E := fun r => cL_Y_remove_96 L xs Q v0 v1 (.inr r)) (fun s out e c => y_Y_remove_96 e (by cases out <;> exact c)) e c
theorem L_Y_remove_96_eq (v0 : Nat) (v1 : Int32) (v2 : Int32) (g : g_S) : L_Y_remove_96 v0 v1 v2 g = itc (b_Y_remove_96 v0 v1 v2 g) (fun s => L_Y_remove_96 v0 v1 s.1 s.2) := it_eq2 (fun s : Int32 × g_S => b_Y_remove_96 v0 v1 s.1 s.2) (v2, g)
noncomputable def k_Y_remove_94 (v0 : Nat) (v1 : Int32) (g : g_S) : Option g_S :=
  (L_Y_remove_96 v0 v1 v1 g).bind <| fun g3 =>
  some g3
set_option maxRecDepth 20000 in
theorem x_Y_remove_94 {L : Nat} {xs : Nat → Int32} {Q : Option Value → ab_H → Prop} {v0 : Nat} {v1 : Int32} {g : g_S} {out : g_S} (e : k_Y_remove_94 v0 v1 g = some out) (c : Q none (hp out)) : wp (ab_ext L xs) J_Y_remove 94 [(0, .ref v0), (1, .int v1)] [] (hp g) Q := by
  unfold k_Y_remove_94 at e
  refine wp_p (j := J_Y_remove) 2 (pc' := 96) (lv' := [(2, .int v1), (0, .ref v0), (1, .int v1)]) (st' := []) rfl ?_
  obtain ⟨g3, h2, e⟩ := bd e
  refine wp_lv (lv' := [(0, .ref v0), (1, .int v1), (2, .int v1)]) rfl ⟨rfl, rfl, rfl, trivial⟩ ?_
  refine l_Y_remove_96 h2 ?_
  show wp (ab_ext L xs) J_Y_remove 130 [] [] (hp g3) Q
  have e := Option.some.inj e; subst e; exact wp_vret rfl rfl c
noncomputable def k_Y_remove_47 (v0 : Nat) (v1 : Int32) (g : g_S) : Option g_S :=
  (rQ g 112 v0 52).bind fun z1 =>
  (aI g 0 z1 v1).bind fun z2 =>
  if z2 = (-1) then
    (rQ g 112 v0 51).bind fun z3 =>
    (rQ g 112 v0 49).bind fun z4 =>
    (aI g 0 z4 v1).bind fun z5 =>
    (rQ g 112 v0 53).bind fun z6 =>
    (aI g 0 z6 v1).bind fun z7 =>
    (sI g z3 z5 z7).bind fun g8 =>
    k_Y_remove_94 v0 v1 g8
  else
    (rQ g 112 v0 53).bind fun z9 =>
    (rQ g 112 v0 52).bind fun z10 =>
    (aI g 0 z10 v1).bind fun z11 =>
    (rQ g 112 v0 53).bind fun z12 =>
    (aI g 0 z12 v1).bind fun z13 =>
    (sI g z9 z11 z13).bind fun g14 =>
    k_Y_remove_94 v0 v1 g14
set_option maxRecDepth 20000 in
theorem x_Y_remove_47 {L : Nat} {xs : Nat → Int32} {Q : Option Value → ab_H → Prop} {v0 : Nat} {v1 : Int32} {g : g_S} {out : g_S} (e : k_Y_remove_47 v0 v1 g = some out) (c : Q none (hp out)) : wp (ab_ext L xs) J_Y_remove 47 [(0, .ref v0), (1, .int v1)] [] (hp g) Q := by
  unfold k_Y_remove_47 at e
  refine wp_p (j := J_Y_remove) 1 (pc' := 48) (lv' := [(0, .ref v0), (1, .int v1)]) (st' := [.ref v0]) rfl ?_
  refine x_gQ e rfl rfl fd_12_52 rfl (fun z1 e => ?_)
  refine wp_p (j := J_Y_remove) 1 (pc' := 52) (lv' := [(0, .ref v0), (1, .int v1)]) (st' := [.int v1, .ref z1]) rfl ?_
  refine x_aI e rfl rfl (fun z2 e => ?_)
  refine wp_p (j := J_Y_remove) 1 (pc' := 54) (lv' := [(0, .ref v0), (1, .int v1)]) (st' := [.int (-1), .int z2]) rfl ?_
  refine x_ne e rfl (fun e => ?_) (fun e => ?_)
  · refine wp_p (j := J_Y_remove) 1 (pc' := 58) (lv' := [(0, .ref v0), (1, .int v1)]) (st' := [.ref v0]) rfl ?_
    refine x_gQ e rfl rfl fd_12_51 rfl (fun z3 e => ?_)
    refine wp_p (j := J_Y_remove) 1 (pc' := 62) (lv' := [(0, .ref v0), (1, .int v1)]) (st' := [.ref v0, .ref z3]) rfl ?_
    refine x_gQ e rfl rfl fd_12_49 rfl (fun z4 e => ?_)
    refine wp_p (j := J_Y_remove) 1 (pc' := 66) (lv' := [(0, .ref v0), (1, .int v1)]) (st' := [.int v1, .ref z4, .ref z3]) rfl ?_
    refine x_aI e rfl rfl (fun z5 e => ?_)
    refine wp_p (j := J_Y_remove) 1 (pc' := 68) (lv' := [(0, .ref v0), (1, .int v1)]) (st' := [.ref v0, .int z5, .ref z3]) rfl ?_
    refine x_gQ e rfl rfl fd_12_53 rfl (fun z6 e => ?_)
    refine wp_p (j := J_Y_remove) 1 (pc' := 72) (lv' := [(0, .ref v0), (1, .int v1)]) (st' := [.int v1, .ref z6, .int z5, .ref z3]) rfl ?_
    refine x_aI e rfl rfl (fun z7 e => ?_)
    refine x_sI e rfl rfl (fun g8 e => ?_)
    refine wp_p (j := J_Y_remove) 1 (pc' := 94) (lv' := [(0, .ref v0), (1, .int v1)]) (st' := []) rfl ?_
    exact wp_lv (lv' := [(0, .ref v0), (1, .int v1)]) rfl ⟨rfl, rfl, trivial⟩ (x_Y_remove_94 e c)
  · refine wp_p (j := J_Y_remove) 1 (pc' := 78) (lv' := [(0, .ref v0), (1, .int v1)]) (st' := [.ref v0]) rfl ?_
    refine x_gQ e rfl rfl fd_12_53 rfl (fun z9 e => ?_)
    refine wp_p (j := J_Y_remove) 1 (pc' := 82) (lv' := [(0, .ref v0), (1, .int v1)]) (st' := [.ref v0, .ref z9]) rfl ?_
    refine x_gQ e rfl rfl fd_12_52 rfl (fun z10 e => ?_)
    refine wp_p (j := J_Y_remove) 1 (pc' := 86) (lv' := [(0, .ref v0), (1, .int v1)]) (st' := [.int v1, .ref z10, .ref z9]) rfl ?_
    refine x_aI e rfl rfl (fun z11 e => ?_)
    refine wp_p (j := J_Y_remove) 1 (pc' := 88) (lv' := [(0, .ref v0), (1, .int v1)]) (st' := [.ref v0, .int z11, .ref z9]) rfl ?_
    refine x_gQ e rfl rfl fd_12_53 rfl (fun z12 e => ?_)
    refine wp_p (j := J_Y_remove) 1 (pc' := 92) (lv' := [(0, .ref v0), (1, .int v1)]) (st' := [.int v1, .ref z12, .int z11, .ref z9]) rfl ?_
    refine x_aI e rfl rfl (fun z13 e => ?_)
    refine x_sI e rfl rfl (fun g14 e => ?_)
    exact wp_lv (lv' := [(0, .ref v0), (1, .int v1)]) rfl ⟨rfl, rfl, trivial⟩ (x_Y_remove_94 e c)
noncomputable def M_Y_remove (v0 : Nat) (v1 : Int32) (g : g_S) : Option g_S :=
  (rQ g 112 v0 53).bind fun z1 =>
  (aI g 0 z1 v1).bind fun z2 =>
  if z2 = (-1) then
    (rQ g 112 v0 50).bind fun z3 =>
    (rQ g 112 v0 49).bind fun z4 =>
    (aI g 0 z4 v1).bind fun z5 =>
    (rQ g 112 v0 52).bind fun z6 =>
    (aI g 0 z6 v1).bind fun z7 =>
    (sI g z3 z5 z7).bind fun g8 =>
    k_Y_remove_47 v0 v1 g8
  else
    (rQ g 112 v0 52).bind fun z9 =>
    (rQ g 112 v0 53).bind fun z10 =>
    (aI g 0 z10 v1).bind fun z11 =>
    (rQ g 112 v0 52).bind fun z12 =>
    (aI g 0 z12 v1).bind fun z13 =>
    (sI g z9 z11 z13).bind fun g14 =>
    k_Y_remove_47 v0 v1 g14
set_option maxRecDepth 20000 in
theorem d_Y_remove {L : Nat} {xs : Nat → Int32} {Q : Option Value → ab_H → Prop} {v0 : Nat} {v1 : Int32} {g : g_S} {out : g_S} (e : M_Y_remove v0 v1 g = some out) (c : Q none (hp out)) : mw (ab_ext L xs) J_Y_remove [.ref v0, .int v1] (hp g) Q := by
  unfold M_Y_remove at e
  refine wp_p (j := J_Y_remove) 1 (pc' := 1) (lv' := [(0, .ref v0), (1, .int v1)]) (st' := [.ref v0]) rfl ?_
  refine x_gQ e rfl rfl fd_12_53 rfl (fun z1 e => ?_)
  refine wp_p (j := J_Y_remove) 1 (pc' := 5) (lv' := [(0, .ref v0), (1, .int v1)]) (st' := [.int v1, .ref z1]) rfl ?_
  refine x_aI e rfl rfl (fun z2 e => ?_)
  refine wp_p (j := J_Y_remove) 1 (pc' := 7) (lv' := [(0, .ref v0), (1, .int v1)]) (st' := [.int (-1), .int z2]) rfl ?_
  refine x_ne e rfl (fun e => ?_) (fun e => ?_)
  · refine wp_p (j := J_Y_remove) 1 (pc' := 11) (lv' := [(0, .ref v0), (1, .int v1)]) (st' := [.ref v0]) rfl ?_
    refine x_gQ e rfl rfl fd_12_50 rfl (fun z3 e => ?_)
    refine wp_p (j := J_Y_remove) 1 (pc' := 15) (lv' := [(0, .ref v0), (1, .int v1)]) (st' := [.ref v0, .ref z3]) rfl ?_
    refine x_gQ e rfl rfl fd_12_49 rfl (fun z4 e => ?_)
    refine wp_p (j := J_Y_remove) 1 (pc' := 19) (lv' := [(0, .ref v0), (1, .int v1)]) (st' := [.int v1, .ref z4, .ref z3]) rfl ?_
    refine x_aI e rfl rfl (fun z5 e => ?_)
    refine wp_p (j := J_Y_remove) 1 (pc' := 21) (lv' := [(0, .ref v0), (1, .int v1)]) (st' := [.ref v0, .int z5, .ref z3]) rfl ?_
    refine x_gQ e rfl rfl fd_12_52 rfl (fun z6 e => ?_)
    refine wp_p (j := J_Y_remove) 1 (pc' := 25) (lv' := [(0, .ref v0), (1, .int v1)]) (st' := [.int v1, .ref z6, .int z5, .ref z3]) rfl ?_
    refine x_aI e rfl rfl (fun z7 e => ?_)
    refine x_sI e rfl rfl (fun g8 e => ?_)
    refine wp_p (j := J_Y_remove) 1 (pc' := 47) (lv' := [(0, .ref v0), (1, .int v1)]) (st' := []) rfl ?_
    exact wp_lv (lv' := [(0, .ref v0), (1, .int v1)]) rfl ⟨rfl, rfl, trivial⟩ (x_Y_remove_47 e c)
  · refine wp_p (j := J_Y_remove) 1 (pc' := 31) (lv' := [(0, .ref v0), (1, .int v1)]) (st' := [.ref v0]) rfl ?_
    refine x_gQ e rfl rfl fd_12_52 rfl (fun z9 e => ?_)
    refine wp_p (j := J_Y_remove) 1 (pc' := 35) (lv' := [(0, .ref v0), (1, .int v1)]) (st' := [.ref v0, .ref z9]) rfl ?_
    refine x_gQ e rfl rfl fd_12_53 rfl (fun z10 e => ?_)
    refine wp_p (j := J_Y_remove) 1 (pc' := 39) (lv' := [(0, .ref v0), (1, .int v1)]) (st' := [.int v1, .ref z10, .ref z9]) rfl ?_
    refine x_aI e rfl rfl (fun z11 e => ?_)
    refine wp_p (j := J_Y_remove) 1 (pc' := 41) (lv' := [(0, .ref v0), (1, .int v1)]) (st' := [.ref v0, .int z11, .ref z9]) rfl ?_
    refine x_gQ e rfl rfl fd_12_52 rfl (fun z12 e => ?_)
    refine wp_p (j := J_Y_remove) 1 (pc' := 45) (lv' := [(0, .ref v0), (1, .int v1)]) (st' := [.int v1, .ref z12, .int z11, .ref z9]) rfl ?_
    refine x_aI e rfl rfl (fun z13 e => ?_)
    refine x_sI e rfl rfl (fun g14 e => ?_)
    exact wp_lv (lv' := [(0, .ref v0), (1, .int v1)]) rfl ⟨rfl, rfl, trivial⟩ (x_Y_remove_47 e c)
