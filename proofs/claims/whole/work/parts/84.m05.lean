/-! methods as functions, group 5 -/
def cL_Sheet_apply_2 (L : Nat) (xs : Nat → Int32) (Q : Option Value → ab_H → Prop) (v0 : Nat) (v1 : Int32) (v2 : Int32) (out : (Int32 × g_S) ⊕ (g_S)) : Prop := match out with
  | .inl s => wp (ab_ext L xs) J_Sheet_apply 2 [(0, .ref v0), (1, .int v1), (2, .int v2), (3, .int s.1)] [] (hp s.2) Q
  | .inr s => wp (ab_ext L xs) J_Sheet_apply 109 [] [] (hp s) Q
noncomputable def k_Sheet_apply_102 (v0 : Nat) (v1 : Int32) (v2 : Int32) (v3 : Int32) (w0 : Int32) (w1 : Int32) (w2 : Nat) (g : g_S) : Option ((Int32 × g_S) ⊕ (g_S)) :=
  (sI g w2 w1 w0).bind fun g1 =>
  some (.inl (v3 + 1, g1))
set_option maxRecDepth 20000 in
theorem x_Sheet_apply_102 {L : Nat} {xs : Nat → Int32} {Q : Option Value → ab_H → Prop} {v0 : Nat} {v1 : Int32} {v2 : Int32} {v3 : Int32} {w0 : Int32} {w1 : Int32} {w2 : Nat} {g : g_S} {out : (Int32 × g_S) ⊕ (g_S)} (e : k_Sheet_apply_102 v0 v1 v2 v3 w0 w1 w2 g = some out) (c : cL_Sheet_apply_2 L xs Q v0 v1 v2 out) : wp (ab_ext L xs) J_Sheet_apply 102 [(0, .ref v0), (1, .int v1), (2, .int v2), (3, .int v3)] [.int w0, .int w1, .ref w2] (hp g) Q := by
  unfold k_Sheet_apply_102 at e
  refine x_sI e rfl rfl (fun g1 e => ?_)
  refine wp_p (j := J_Sheet_apply) 2 (pc' := 2) (lv' := [(3, .int (v3 + 1)), (0, .ref v0), (1, .int v1), (2, .int v2)]) (st' := []) rfl ?_
  have e := Option.some.inj e; subst e; exact wp_lv (lv' := [(0, .ref v0), (1, .int v1), (2, .int v2), (3, .int (v3 + 1))]) rfl ⟨rfl, rfl, rfl, rfl, trivial⟩ c
noncomputable def k_Sheet_apply_51 (v0 : Nat) (v1 : Int32) (v2 : Int32) (v3 : Int32) (v4 : Int32) (w0 : Int32) (g : g_S) : Option ((Int32 × g_S) ⊕ (g_S)) :=
  if v4 = (-1) then
    some (.inl (v3 + 1, g))
  else
    (rQ g 109 v0 9).bind fun z1 =>
    (aI g 0 z1 v3).bind fun z2 =>
    if w0 < z2 then
      some (.inl (v3 + 1, g))
    else
      (rQ g 109 v0 9).bind fun z3 =>
      (sI g z3 v3 w0).bind fun g4 =>
      (rQ g4 109 v0 10).bind fun z5 =>
      if v4 < 65536 then
        k_Sheet_apply_102 v0 v1 v2 v3 v4 (v2 + v3) z5 g4
      else
        k_Sheet_apply_102 v0 v1 v2 v3 (v4 - 65536) (v2 + v3) z5 g4
set_option maxRecDepth 20000 in
theorem x_Sheet_apply_51 {L : Nat} {xs : Nat → Int32} {Q : Option Value → ab_H → Prop} {v0 : Nat} {v1 : Int32} {v2 : Int32} {v3 : Int32} {v4 : Int32} {w0 : Int32} {g : g_S} {out : (Int32 × g_S) ⊕ (g_S)} (e : k_Sheet_apply_51 v0 v1 v2 v3 v4 w0 g = some out) (c : cL_Sheet_apply_2 L xs Q v0 v1 v2 out) : wp (ab_ext L xs) J_Sheet_apply 51 [(0, .ref v0), (1, .int v1), (2, .int v2), (3, .int v3), (4, .int v4)] [.int w0] (hp g) Q := by
  unfold k_Sheet_apply_51 at e
  refine wp_p (j := J_Sheet_apply) 3 (pc' := 56) (lv' := [(5, .int w0), (0, .ref v0), (1, .int v1), (2, .int v2), (3, .int v3), (4, .int v4)]) (st' := [.int (-1), .int v4]) rfl ?_
  refine x_eq e rfl (fun e => ?_) (fun e => ?_)
  · refine wp_p (j := J_Sheet_apply) 2 (pc' := 2) (lv' := [(3, .int (v3 + 1)), (5, .int w0), (0, .ref v0), (1, .int v1), (2, .int v2), (4, .int v4)]) (st' := []) rfl ?_
    have e := Option.some.inj e; subst e; exact wp_lv (lv' := [(0, .ref v0), (1, .int v1), (2, .int v2), (3, .int (v3 + 1))]) rfl ⟨rfl, rfl, rfl, rfl, trivial⟩ c
  · refine wp_p (j := J_Sheet_apply) 2 (pc' := 62) (lv' := [(5, .int w0), (0, .ref v0), (1, .int v1), (2, .int v2), (3, .int v3), (4, .int v4)]) (st' := [.ref v0, .int w0]) rfl ?_
    refine x_gQ e rfl rfl fd_9_9 rfl (fun z1 e => ?_)
    refine wp_p (j := J_Sheet_apply) 1 (pc' := 66) (lv' := [(5, .int w0), (0, .ref v0), (1, .int v1), (2, .int v2), (3, .int v3), (4, .int v4)]) (st' := [.int v3, .ref z1, .int w0]) rfl ?_
    refine x_aI e rfl rfl (fun z2 e => ?_)
    refine x_lt e rfl (fun e => ?_) (fun e => ?_)
    · refine wp_p (j := J_Sheet_apply) 2 (pc' := 2) (lv' := [(3, .int (v3 + 1)), (5, .int w0), (0, .ref v0), (1, .int v1), (2, .int v2), (4, .int v4)]) (st' := []) rfl ?_
      have e := Option.some.inj e; subst e; exact wp_lv (lv' := [(0, .ref v0), (1, .int v1), (2, .int v2), (3, .int (v3 + 1))]) rfl ⟨rfl, rfl, rfl, rfl, trivial⟩ c
    · refine wp_p (j := J_Sheet_apply) 1 (pc' := 71) (lv' := [(5, .int w0), (0, .ref v0), (1, .int v1), (2, .int v2), (3, .int v3), (4, .int v4)]) (st' := [.ref v0]) rfl ?_
      refine x_gQ e rfl rfl fd_9_9 rfl (fun z3 e => ?_)
      refine wp_p (j := J_Sheet_apply) 2 (pc' := 77) (lv' := [(5, .int w0), (0, .ref v0), (1, .int v1), (2, .int v2), (3, .int v3), (4, .int v4)]) (st' := [.int w0, .int v3, .ref z3]) rfl ?_
      refine x_sI e rfl rfl (fun g4 e => ?_)
      refine wp_p (j := J_Sheet_apply) 1 (pc' := 79) (lv' := [(5, .int w0), (0, .ref v0), (1, .int v1), (2, .int v2), (3, .int v3), (4, .int v4)]) (st' := [.ref v0]) rfl ?_
      refine x_gQ e rfl rfl fd_9_10 rfl (fun z5 e => ?_)
      refine wp_p (j := J_Sheet_apply) 4 (pc' := 87) (lv' := [(5, .int w0), (0, .ref v0), (1, .int v1), (2, .int v2), (3, .int v3), (4, .int v4)]) (st' := [.int v4, .int (v2 + v3), .ref z5]) rfl ?_
      refine x_ld (x := 65536) rfl rfl rfl ?_
      refine x_lt e rfl (fun e => ?_) (fun e => ?_)
      · refine wp_p (j := J_Sheet_apply) 1 (pc' := 102) (lv' := [(5, .int w0), (0, .ref v0), (1, .int v1), (2, .int v2), (3, .int v3), (4, .int v4)]) (st' := [.int v4, .int (v2 + v3), .ref z5]) rfl ?_
        exact wp_lv (lv' := [(0, .ref v0), (1, .int v1), (2, .int v2), (3, .int v3)]) rfl ⟨rfl, rfl, rfl, rfl, trivial⟩ (x_Sheet_apply_102 e c)
      · refine wp_p (j := J_Sheet_apply) 1 (pc' := 94) (lv' := [(5, .int w0), (0, .ref v0), (1, .int v1), (2, .int v2), (3, .int v3), (4, .int v4)]) (st' := [.int v4, .int (v2 + v3), .ref z5]) rfl ?_
        refine x_ld (x := 65536) rfl rfl rfl ?_
        refine wp_p (j := J_Sheet_apply) 2 (pc' := 102) (lv' := [(5, .int w0), (0, .ref v0), (1, .int v1), (2, .int v2), (3, .int v3), (4, .int v4)]) (st' := [.int (v4 - 65536), .int (v2 + v3), .ref z5]) rfl ?_
        exact wp_lv (lv' := [(0, .ref v0), (1, .int v1), (2, .int v2), (3, .int v3)]) rfl ⟨rfl, rfl, rfl, rfl, trivial⟩ (x_Sheet_apply_102 e c)
noncomputable def b_Sheet_apply_2 (v0 : Nat) (v1 : Int32) (v2 : Int32) (v3 : Int32) (g : g_S) : Option ((Int32 × g_S) ⊕ (g_S)) :=
  if v3 < 11 then
    (rQ g 109 v0 8).bind fun z1 =>
    (rQ g 109 v0 3).bind fun z2 =>
    (aI g 0 z2 v1).bind fun z3 =>
    (aI g 0 z1 ((z3 * 11) + v3)).bind fun z4 =>
    if z4 < 65536 then
      (rQ g 109 v0 2).bind fun z5 =>
      (aI g 0 z5 v1).bind fun z6 =>
      k_Sheet_apply_51 v0 v1 v2 v3 z4 z6 g
    else
      (rQ g 109 v0 2).bind fun z7 =>
      (aI g 0 z7 v1).bind fun z8 =>
      k_Sheet_apply_51 v0 v1 v2 v3 z4 (z8 + 65536) g
  else
    some (.inr g)
set_option maxRecDepth 20000 in
theorem y_Sheet_apply_2 {L : Nat} {xs : Nat → Int32} {Q : Option Value → ab_H → Prop} {v0 : Nat} {v1 : Int32} {v2 : Int32} {v3 : Int32} {g : g_S} {out : (Int32 × g_S) ⊕ (g_S)} (e : b_Sheet_apply_2 v0 v1 v2 v3 g = some out) (c : cL_Sheet_apply_2 L xs Q v0 v1 v2 out) : wp (ab_ext L xs) J_Sheet_apply 2 [(0, .ref v0), (1, .int v1), (2, .int v2), (3, .int v3)] [] (hp g) Q := by
  unfold b_Sheet_apply_2 at e
  refine wp_p (j := J_Sheet_apply) 2 (pc' := 5) (lv' := [(0, .ref v0), (1, .int v1), (2, .int v2), (3, .int v3)]) (st' := [.int 11, .int v3]) rfl ?_
  refine x_ge e rfl (fun e => ?_) (fun e => ?_)
  · refine wp_p (j := J_Sheet_apply) 1 (pc' := 9) (lv' := [(0, .ref v0), (1, .int v1), (2, .int v2), (3, .int v3)]) (st' := [.ref v0]) rfl ?_
    refine x_gQ e rfl rfl fd_9_8 rfl (fun z1 e => ?_)
    refine wp_p (j := J_Sheet_apply) 1 (pc' := 13) (lv' := [(0, .ref v0), (1, .int v1), (2, .int v2), (3, .int v3)]) (st' := [.ref v0, .ref z1]) rfl ?_
    refine x_gQ e rfl rfl fd_9_3 rfl (fun z2 e => ?_)
    refine wp_p (j := J_Sheet_apply) 1 (pc' := 17) (lv' := [(0, .ref v0), (1, .int v1), (2, .int v2), (3, .int v3)]) (st' := [.int v1, .ref z2, .ref z1]) rfl ?_
    refine x_aI e rfl rfl (fun z3 e => ?_)
    refine wp_p (j := J_Sheet_apply) 4 (pc' := 23) (lv' := [(0, .ref v0), (1, .int v1), (2, .int v2), (3, .int v3)]) (st' := [.int ((z3 * 11) + v3), .ref z1]) rfl ?_
    refine x_aI e rfl rfl (fun z4 e => ?_)
    refine wp_p (j := J_Sheet_apply) 2 (pc' := 28) (lv' := [(4, .int z4), (0, .ref v0), (1, .int v1), (2, .int v2), (3, .int v3)]) (st' := [.int z4]) rfl ?_
    refine x_ld (x := 65536) rfl rfl rfl ?_
    refine x_lt e rfl (fun e => ?_) (fun e => ?_)
    · refine wp_p (j := J_Sheet_apply) 1 (pc' := 46) (lv' := [(4, .int z4), (0, .ref v0), (1, .int v1), (2, .int v2), (3, .int v3)]) (st' := [.ref v0]) rfl ?_
      refine x_gQ e rfl rfl fd_9_2 rfl (fun z5 e => ?_)
      refine wp_p (j := J_Sheet_apply) 1 (pc' := 50) (lv' := [(4, .int z4), (0, .ref v0), (1, .int v1), (2, .int v2), (3, .int v3)]) (st' := [.int v1, .ref z5]) rfl ?_
      refine x_aI e rfl rfl (fun z6 e => ?_)
      exact wp_lv (lv' := [(0, .ref v0), (1, .int v1), (2, .int v2), (3, .int v3), (4, .int z4)]) rfl ⟨rfl, rfl, rfl, rfl, rfl, trivial⟩ (x_Sheet_apply_51 e c)
    · refine wp_p (j := J_Sheet_apply) 1 (pc' := 34) (lv' := [(4, .int z4), (0, .ref v0), (1, .int v1), (2, .int v2), (3, .int v3)]) (st' := [.ref v0]) rfl ?_
      refine x_gQ e rfl rfl fd_9_2 rfl (fun z7 e => ?_)
      refine wp_p (j := J_Sheet_apply) 1 (pc' := 38) (lv' := [(4, .int z4), (0, .ref v0), (1, .int v1), (2, .int v2), (3, .int v3)]) (st' := [.int v1, .ref z7]) rfl ?_
      refine x_aI e rfl rfl (fun z8 e => ?_)
      refine x_ld (x := 65536) rfl rfl rfl ?_
      refine wp_p (j := J_Sheet_apply) 2 (pc' := 51) (lv' := [(4, .int z4), (0, .ref v0), (1, .int v1), (2, .int v2), (3, .int v3)]) (st' := [.int (z8 + 65536)]) rfl ?_
      exact wp_lv (lv' := [(0, .ref v0), (1, .int v1), (2, .int v2), (3, .int v3), (4, .int z4)]) rfl ⟨rfl, rfl, rfl, rfl, rfl, trivial⟩ (x_Sheet_apply_51 e c)
  · have e := Option.some.inj e; subst e; exact wp_lv (lv' := []) rfl trivial c
noncomputable def L_Sheet_apply_2 (v0 : Nat) (v1 : Int32) (v2 : Int32) (v3 : Int32) (g : g_S) : Option (g_S) := it (fun s : Int32 × g_S => b_Sheet_apply_2 v0 v1 v2 s.1 s.2) (v3, g)
theorem l_Sheet_apply_2 {L : Nat} {xs : Nat → Int32} {Q : Option Value → ab_H → Prop} {v0 : Nat} {v1 : Int32} {v2 : Int32} {v3 : Int32} {g : g_S} {r : g_S} (e : L_Sheet_apply_2 v0 v1 v2 v3 g = some r) (c : cL_Sheet_apply_2 L xs Q v0 v1 v2 (.inr r)) : wp (ab_ext L xs) J_Sheet_apply 2 [(0, .ref v0), (1, .int v1), (2, .int v2), (3, .int v3)] [] (hp g) Q :=
  it_wp (P := fun s : Int32 × g_S => wp (ab_ext L xs) J_Sheet_apply 2 [(0, .ref v0), (1, .int v1), (2, .int v2), (3, .int s.1)] [] (hp s.2) Q) (E := fun r => cL_Sheet_apply_2 L xs Q v0 v1 v2 (.inr r)) (fun s out e c => y_Sheet_apply_2 e (by cases out <;> exact c)) e c
theorem L_Sheet_apply_2_eq (v0 : Nat) (v1 : Int32) (v2 : Int32) (v3 : Int32) (g : g_S) : L_Sheet_apply_2 v0 v1 v2 v3 g = itc (b_Sheet_apply_2 v0 v1 v2 v3 g) (fun s => L_Sheet_apply_2 v0 v1 v2 s.1 s.2) := it_eq2 (fun s : Int32 × g_S => b_Sheet_apply_2 v0 v1 v2 s.1 s.2) (v3, g)
noncomputable def M_Sheet_apply (v0 : Nat) (v1 : Int32) (v2 : Int32) (g : g_S) : Option g_S :=
  (L_Sheet_apply_2 v0 v1 v2 0 g).bind <| fun g3 =>
  some g3
set_option maxRecDepth 20000 in
theorem d_Sheet_apply {L : Nat} {xs : Nat → Int32} {Q : Option Value → ab_H → Prop} {v0 : Nat} {v1 : Int32} {v2 : Int32} {g : g_S} {out : g_S} (e : M_Sheet_apply v0 v1 v2 g = some out) (c : Q none (hp out)) : mw (ab_ext L xs) J_Sheet_apply [.ref v0, .int v1, .int v2] (hp g) Q := by
  unfold M_Sheet_apply at e
  refine wp_p (j := J_Sheet_apply) 2 (pc' := 2) (lv' := [(3, .int 0), (0, .ref v0), (1, .int v1), (2, .int v2)]) (st' := []) rfl ?_
  obtain ⟨g3, h2, e⟩ := bd e
  refine wp_lv (lv' := [(0, .ref v0), (1, .int v1), (2, .int v2), (3, .int 0)]) rfl ⟨rfl, rfl, rfl, rfl, trivial⟩ ?_
  refine l_Sheet_apply_2 h2 ?_
  show wp (ab_ext L xs) J_Sheet_apply 109 [] [] (hp g3) Q
  have e := Option.some.inj e; subst e; exact wp_vret rfl rfl c
noncomputable def M_Node_isPieceTag (v0 : Nat) (g : g_S) : Option Int32 :=
  (rI g 107 v0 0).bind fun z1 =>
  if z1 < 12 then
    some 0
  else
    (rI g 107 v0 0).bind fun z2 =>
    if 14 < z2 then
      some 0
    else
      some 1
set_option maxRecDepth 20000 in
theorem d_Node_isPieceTag {L : Nat} {xs : Nat → Int32} {Q : Option Value → ab_H → Prop} {v0 : Nat} {g : g_S} {out : Int32} (e : M_Node_isPieceTag v0 g = some out) (c : Q (some (.int out)) (hp g)) : mw (ab_ext L xs) J_Node_isPieceTag [.ref v0] (hp g) Q := by
  unfold M_Node_isPieceTag at e
  refine wp_p (j := J_Node_isPieceTag) 1 (pc' := 1) (lv' := [(0, .ref v0)]) (st' := [.ref v0]) rfl ?_
  refine x_gI e rfl rfl fd_7_0 rfl (fun z1 e => ?_)
  refine wp_p (j := J_Node_isPieceTag) 1 (pc' := 6) (lv' := [(0, .ref v0)]) (st' := [.int 12, .int z1]) rfl ?_
  refine x_lt e rfl (fun e => ?_) (fun e => ?_)
  · refine wp_p (j := J_Node_isPieceTag) 1 (pc' := 23) (lv' := [(0, .ref v0)]) (st' := [.int 0]) rfl ?_
    have e := Option.some.inj e; subst e; exact wp_iret (ty := .boolean) rfl rfl (by decide) c
  · refine wp_p (j := J_Node_isPieceTag) 1 (pc' := 10) (lv' := [(0, .ref v0)]) (st' := [.ref v0]) rfl ?_
    refine x_gI e rfl rfl fd_7_0 rfl (fun z2 e => ?_)
    refine wp_p (j := J_Node_isPieceTag) 1 (pc' := 15) (lv' := [(0, .ref v0)]) (st' := [.int 14, .int z2]) rfl ?_
    refine x_gt e rfl (fun e => ?_) (fun e => ?_)
    · refine wp_p (j := J_Node_isPieceTag) 1 (pc' := 23) (lv' := [(0, .ref v0)]) (st' := [.int 0]) rfl ?_
      have e := Option.some.inj e; subst e; exact wp_iret (ty := .boolean) rfl rfl (by decide) c
    · refine wp_p (j := J_Node_isPieceTag) 2 (pc' := 23) (lv' := [(0, .ref v0)]) (st' := [.int 1]) rfl ?_
      have e := Option.some.inj e; subst e; exact wp_iret (ty := .boolean) rfl rfl (by decide) c
def cL_Sheet_cascade_58 (L : Nat) (xs : Nat → Int32) (Q : Option Value → ab_H → Prop) (v0 : Nat) (v1 : Int32) (v2 : Nat) (v3 : Int32) (out : (Int32 × g_S) ⊕ (g_S)) : Prop := match out with
  | .inl s => wp (ab_ext L xs) J_Sheet_cascade 58 [(0, .ref v0), (1, .int v1), (2, .ref v2), (3, .int v3), (4, .int s.1)] [] (hp s.2) Q
  | .inr s => wp (ab_ext L xs) J_Sheet_cascade 90 [(0, .ref v0), (1, .int v1), (2, .ref v2), (3, .int v3)] [] (hp s) Q
noncomputable def b_Sheet_cascade_58 (v0 : Nat) (v1 : Int32) (v2 : Nat) (v3 : Int32) (v4 : Int32) (g : g_S) : Option ((Int32 × g_S) ⊕ (g_S)) :=
  (rI g 109 v0 13).bind fun z1 =>
  if v4 < z1 then
    (vc g 109 v0 (M_Sheet_isMatch v0 v4 v1 g)).bind fun z2 =>
    if z2 = 0 then
      some (.inl (v4 + 1, g))
    else
      (vc g 109 v0 (M_Sheet_apply v0 v4 v3 g)).bind fun g3 =>
      some (.inl (v4 + 1, g3))
  else
    some (.inr g)
set_option maxRecDepth 20000 in
theorem y_Sheet_cascade_58 {L : Nat} {xs : Nat → Int32} {Q : Option Value → ab_H → Prop} {v0 : Nat} {v1 : Int32} {v2 : Nat} {v3 : Int32} {v4 : Int32} {g : g_S} {out : (Int32 × g_S) ⊕ (g_S)} (e : b_Sheet_cascade_58 v0 v1 v2 v3 v4 g = some out) (c : cL_Sheet_cascade_58 L xs Q v0 v1 v2 v3 out) : wp (ab_ext L xs) J_Sheet_cascade 58 [(0, .ref v0), (1, .int v1), (2, .ref v2), (3, .int v3), (4, .int v4)] [] (hp g) Q := by
  unfold b_Sheet_cascade_58 at e
  refine wp_p (j := J_Sheet_cascade) 2 (pc' := 61) (lv' := [(0, .ref v0), (1, .int v1), (2, .ref v2), (3, .int v3), (4, .int v4)]) (st' := [.ref v0, .int v4]) rfl ?_
  refine x_gI e rfl rfl fd_9_13 rfl (fun z1 e => ?_)
  refine x_ge e rfl (fun e => ?_) (fun e => ?_)
  · refine wp_p (j := J_Sheet_cascade) 3 (pc' := 71) (lv' := [(0, .ref v0), (1, .int v1), (2, .ref v2), (3, .int v3), (4, .int v4)]) (st' := [.int v1, .int v4, .ref v0]) rfl ?_
    refine x_cv1 (As := [.int v4, .int v1]) (rest := []) Value.int e rfl rfl rfl rfl rfl rfl (fun h => d_Sheet_isMatch h ⟨rfl, rfl⟩) (fun z2 e => ?_)
    refine z_eq e rfl (fun e => ?_) (fun e => ?_)
    · refine wp_p (j := J_Sheet_cascade) 2 (pc' := 58) (lv' := [(4, .int (v4 + 1)), (0, .ref v0), (1, .int v1), (2, .ref v2), (3, .int v3)]) (st' := []) rfl ?_
      have e := Option.some.inj e; subst e; exact wp_lv (lv' := [(0, .ref v0), (1, .int v1), (2, .ref v2), (3, .int v3), (4, .int (v4 + 1))]) rfl ⟨rfl, rfl, rfl, rfl, rfl, trivial⟩ c
    · refine wp_p (j := J_Sheet_cascade) 3 (pc' := 81) (lv' := [(0, .ref v0), (1, .int v1), (2, .ref v2), (3, .int v3), (4, .int v4)]) (st' := [.int v3, .int v4, .ref v0]) rfl ?_
      refine x_cv0 (As := [.int v4, .int v3]) (rest := []) e rfl rfl rfl rfl rfl rfl (fun h => d_Sheet_apply h ⟨rfl, rfl⟩) (fun g3 e => ?_)
      refine wp_p (j := J_Sheet_cascade) 2 (pc' := 58) (lv' := [(4, .int (v4 + 1)), (0, .ref v0), (1, .int v1), (2, .ref v2), (3, .int v3)]) (st' := []) rfl ?_
      have e := Option.some.inj e; subst e; exact wp_lv (lv' := [(0, .ref v0), (1, .int v1), (2, .ref v2), (3, .int v3), (4, .int (v4 + 1))]) rfl ⟨rfl, rfl, rfl, rfl, rfl, trivial⟩ c
  · have e := Option.some.inj e; subst e; exact wp_lv (lv' := [(0, .ref v0), (1, .int v1), (2, .ref v2), (3, .int v3)]) rfl ⟨rfl, rfl, rfl, rfl, trivial⟩ c
noncomputable def L_Sheet_cascade_58 (v0 : Nat) (v1 : Int32) (v2 : Nat) (v3 : Int32) (v4 : Int32) (g : g_S) : Option (g_S) := it (fun s : Int32 × g_S => b_Sheet_cascade_58 v0 v1 v2 v3 s.1 s.2) (v4, g)
theorem l_Sheet_cascade_58 {L : Nat} {xs : Nat → Int32} {Q : Option Value → ab_H → Prop} {v0 : Nat} {v1 : Int32} {v2 : Nat} {v3 : Int32} {v4 : Int32} {g : g_S} {r : g_S} (e : L_Sheet_cascade_58 v0 v1 v2 v3 v4 g = some r) (c : cL_Sheet_cascade_58 L xs Q v0 v1 v2 v3 (.inr r)) : wp (ab_ext L xs) J_Sheet_cascade 58 [(0, .ref v0), (1, .int v1), (2, .ref v2), (3, .int v3), (4, .int v4)] [] (hp g) Q :=
  it_wp (P := fun s : Int32 × g_S => wp (ab_ext L xs) J_Sheet_cascade 58 [(0, .ref v0), (1, .int v1), (2, .ref v2), (3, .int v3), (4, .int s.1)] [] (hp s.2) Q) (E := fun r => cL_Sheet_cascade_58 L xs Q v0 v1 v2 v3 (.inr r)) (fun s out e c => y_Sheet_cascade_58 e (by cases out <;> exact c)) e c
theorem L_Sheet_cascade_58_eq (v0 : Nat) (v1 : Int32) (v2 : Nat) (v3 : Int32) (v4 : Int32) (g : g_S) : L_Sheet_cascade_58 v0 v1 v2 v3 v4 g = itc (b_Sheet_cascade_58 v0 v1 v2 v3 v4 g) (fun s => L_Sheet_cascade_58 v0 v1 v2 v3 s.1 s.2) := it_eq2 (fun s : Int32 × g_S => b_Sheet_cascade_58 v0 v1 v2 v3 s.1 s.2) (v4, g)
def cL_Sheet_cascade_18 (L : Nat) (xs : Nat → Int32) (Q : Option Value → ab_H → Prop) (v0 : Nat) (v1 : Int32) (v2 : Nat) (v3 : Int32) (out : (Int32 × g_S) ⊕ (g_S)) : Prop := match out with
  | .inl s => wp (ab_ext L xs) J_Sheet_cascade 18 [(0, .ref v0), (1, .int v1), (2, .ref v2), (3, .int v3), (4, .int s.1)] [] (hp s.2) Q
  | .inr s => wp (ab_ext L xs) J_Sheet_cascade 55 [(0, .ref v0), (1, .int v1), (2, .ref v2), (3, .int v3)] [] (hp s) Q
noncomputable def b_Sheet_cascade_18 (v0 : Nat) (v1 : Int32) (v2 : Nat) (v3 : Int32) (v4 : Int32) (g : g_S) : Option ((Int32 × g_S) ⊕ (g_S)) :=
  if v4 < 11 then
    (rQ g 109 v0 10).bind fun z1 =>
    (vc g 109 v0 (M_Sheet_usual v0 v2 v4 g)).bind fun z2 =>
    (sI g z1 (v3 + v4) z2).bind fun g3 =>
    (rQ g3 109 v0 9).bind fun z4 =>
    (sI g3 z4 v4 (-1)).bind fun g5 =>
    some (.inl (v4 + 1, g5))
  else
    some (.inr g)
set_option maxRecDepth 20000 in
theorem y_Sheet_cascade_18 {L : Nat} {xs : Nat → Int32} {Q : Option Value → ab_H → Prop} {v0 : Nat} {v1 : Int32} {v2 : Nat} {v3 : Int32} {v4 : Int32} {g : g_S} {out : (Int32 × g_S) ⊕ (g_S)} (e : b_Sheet_cascade_18 v0 v1 v2 v3 v4 g = some out) (c : cL_Sheet_cascade_18 L xs Q v0 v1 v2 v3 out) : wp (ab_ext L xs) J_Sheet_cascade 18 [(0, .ref v0), (1, .int v1), (2, .ref v2), (3, .int v3), (4, .int v4)] [] (hp g) Q := by
  unfold b_Sheet_cascade_18 at e
  refine wp_p (j := J_Sheet_cascade) 2 (pc' := 22) (lv' := [(0, .ref v0), (1, .int v1), (2, .ref v2), (3, .int v3), (4, .int v4)]) (st' := [.int 11, .int v4]) rfl ?_
  refine x_ge e rfl (fun e => ?_) (fun e => ?_)
  · refine wp_p (j := J_Sheet_cascade) 1 (pc' := 26) (lv' := [(0, .ref v0), (1, .int v1), (2, .ref v2), (3, .int v3), (4, .int v4)]) (st' := [.ref v0]) rfl ?_
    refine x_gQ e rfl rfl fd_9_10 rfl (fun z1 e => ?_)
    refine wp_p (j := J_Sheet_cascade) 6 (pc' := 37) (lv' := [(0, .ref v0), (1, .int v1), (2, .ref v2), (3, .int v3), (4, .int v4)]) (st' := [.int v4, .ref v2, .ref v0, .int (v3 + v4), .ref z1]) rfl ?_
    refine x_cv1 (As := [.ref v2, .int v4]) (rest := [.int (v3 + v4), .ref z1]) Value.int e rfl rfl rfl rfl rfl rfl (fun h => d_Sheet_usual h ⟨rfl, rfl⟩) (fun z2 e => ?_)
    refine x_sI e rfl rfl (fun g3 e => ?_)
    refine wp_p (j := J_Sheet_cascade) 1 (pc' := 42) (lv' := [(0, .ref v0), (1, .int v1), (2, .ref v2), (3, .int v3), (4, .int v4)]) (st' := [.ref v0]) rfl ?_
    refine x_gQ e rfl rfl fd_9_9 rfl (fun z4 e => ?_)
    refine wp_p (j := J_Sheet_cascade) 2 (pc' := 48) (lv' := [(0, .ref v0), (1, .int v1), (2, .ref v2), (3, .int v3), (4, .int v4)]) (st' := [.int (-1), .int v4, .ref z4]) rfl ?_
    refine x_sI e rfl rfl (fun g5 e => ?_)
    refine wp_p (j := J_Sheet_cascade) 2 (pc' := 18) (lv' := [(4, .int (v4 + 1)), (0, .ref v0), (1, .int v1), (2, .ref v2), (3, .int v3)]) (st' := []) rfl ?_
    have e := Option.some.inj e; subst e; exact wp_lv (lv' := [(0, .ref v0), (1, .int v1), (2, .ref v2), (3, .int v3), (4, .int (v4 + 1))]) rfl ⟨rfl, rfl, rfl, rfl, rfl, trivial⟩ c
  · have e := Option.some.inj e; subst e; exact wp_lv (lv' := [(0, .ref v0), (1, .int v1), (2, .ref v2), (3, .int v3)]) rfl ⟨rfl, rfl, rfl, rfl, trivial⟩ c
noncomputable def L_Sheet_cascade_18 (v0 : Nat) (v1 : Int32) (v2 : Nat) (v3 : Int32) (v4 : Int32) (g : g_S) : Option (g_S) := it (fun s : Int32 × g_S => b_Sheet_cascade_18 v0 v1 v2 v3 s.1 s.2) (v4, g)
theorem l_Sheet_cascade_18 {L : Nat} {xs : Nat → Int32} {Q : Option Value → ab_H → Prop} {v0 : Nat} {v1 : Int32} {v2 : Nat} {v3 : Int32} {v4 : Int32} {g : g_S} {r : g_S} (e : L_Sheet_cascade_18 v0 v1 v2 v3 v4 g = some r) (c : cL_Sheet_cascade_18 L xs Q v0 v1 v2 v3 (.inr r)) : wp (ab_ext L xs) J_Sheet_cascade 18 [(0, .ref v0), (1, .int v1), (2, .ref v2), (3, .int v3), (4, .int v4)] [] (hp g) Q :=
  it_wp (P := fun s : Int32 × g_S => wp (ab_ext L xs) J_Sheet_cascade 18 [(0, .ref v0), (1, .int v1), (2, .ref v2), (3, .int v3), (4, .int s.1)] [] (hp s.2) Q) (E := fun r => cL_Sheet_cascade_18 L xs Q v0 v1 v2 v3 (.inr r)) (fun s out e c => y_Sheet_cascade_18 e (by cases out <;> exact c)) e c
theorem L_Sheet_cascade_18_eq (v0 : Nat) (v1 : Int32) (v2 : Nat) (v3 : Int32) (v4 : Int32) (g : g_S) : L_Sheet_cascade_18 v0 v1 v2 v3 v4 g = itc (b_Sheet_cascade_18 v0 v1 v2 v3 v4 g) (fun s => L_Sheet_cascade_18 v0 v1 v2 v3 s.1 s.2) := it_eq2 (fun s : Int32 × g_S => b_Sheet_cascade_18 v0 v1 v2 v3 s.1 s.2) (v4, g)
noncomputable def k_Sheet_cascade_156 (v0 : Nat) (v3 : Int32) (w0 : Int32) (w1 : Int32) (w2 : Nat) (g : g_S) : Option g_S :=
  (sI g w2 w1 w0).bind fun g1 =>
  (rQ g1 109 v0 10).bind fun z2 =>
  (sI g1 z2 (v3 + 10) 0).bind fun g3 =>
  some g3
set_option maxRecDepth 20000 in
theorem x_Sheet_cascade_156 {L : Nat} {xs : Nat → Int32} {Q : Option Value → ab_H → Prop} {v0 : Nat} {v3 : Int32} {w0 : Int32} {w1 : Int32} {w2 : Nat} {g : g_S} {out : g_S} (e : k_Sheet_cascade_156 v0 v3 w0 w1 w2 g = some out) (c : Q none (hp out)) : wp (ab_ext L xs) J_Sheet_cascade 156 [(0, .ref v0), (3, .int v3)] [.int w0, .int w1, .ref w2] (hp g) Q := by
  unfold k_Sheet_cascade_156 at e
  refine x_sI e rfl rfl (fun g1 e => ?_)
  refine wp_p (j := J_Sheet_cascade) 1 (pc' := 158) (lv' := [(0, .ref v0), (3, .int v3)]) (st' := [.ref v0]) rfl ?_
  refine x_gQ e rfl rfl fd_9_10 rfl (fun z2 e => ?_)
  refine wp_p (j := J_Sheet_cascade) 4 (pc' := 166) (lv' := [(0, .ref v0), (3, .int v3)]) (st' := [.int 0, .int (v3 + 10), .ref z2]) rfl ?_
  refine x_sI e rfl rfl (fun g3 e => ?_)
  refine wp_p (j := J_Sheet_cascade) 1 (pc' := 203) (lv' := [(0, .ref v0), (3, .int v3)]) (st' := []) rfl ?_
  have e := Option.some.inj e; subst e; exact wp_vret rfl rfl c
noncomputable def k_Sheet_cascade_132 (v0 : Nat) (v3 : Int32) (g : g_S) : Option g_S :=
  (rQ g 109 v0 10).bind fun z1 =>
  (rQ g 109 v0 10).bind fun z2 =>
  (aI g 0 z2 (v3 + 0)).bind fun z3 =>
  if z3 = 2 then
    k_Sheet_cascade_156 v0 v3 2 (v3 + 0) z1 g
  else
    k_Sheet_cascade_156 v0 v3 1 (v3 + 0) z1 g
set_option maxRecDepth 20000 in
theorem x_Sheet_cascade_132 {L : Nat} {xs : Nat → Int32} {Q : Option Value → ab_H → Prop} {v0 : Nat} {v3 : Int32} {g : g_S} {out : g_S} (e : k_Sheet_cascade_132 v0 v3 g = some out) (c : Q none (hp out)) : wp (ab_ext L xs) J_Sheet_cascade 132 [(0, .ref v0), (3, .int v3)] [] (hp g) Q := by
  unfold k_Sheet_cascade_132 at e
  refine wp_p (j := J_Sheet_cascade) 1 (pc' := 133) (lv' := [(0, .ref v0), (3, .int v3)]) (st' := [.ref v0]) rfl ?_
  refine x_gQ e rfl rfl fd_9_10 rfl (fun z1 e => ?_)
  refine wp_p (j := J_Sheet_cascade) 4 (pc' := 140) (lv' := [(0, .ref v0), (3, .int v3)]) (st' := [.ref v0, .int (v3 + 0), .ref z1]) rfl ?_
  refine x_gQ e rfl rfl fd_9_10 rfl (fun z2 e => ?_)
  refine wp_p (j := J_Sheet_cascade) 3 (pc' := 146) (lv' := [(0, .ref v0), (3, .int v3)]) (st' := [.int (v3 + 0), .ref z2, .int (v3 + 0), .ref z1]) rfl ?_
  refine x_aI e rfl rfl (fun z3 e => ?_)
  refine wp_p (j := J_Sheet_cascade) 1 (pc' := 148) (lv' := [(0, .ref v0), (3, .int v3)]) (st' := [.int 2, .int z3, .int (v3 + 0), .ref z1]) rfl ?_
  refine x_ne e rfl (fun e => ?_) (fun e => ?_)
  · refine wp_p (j := J_Sheet_cascade) 2 (pc' := 156) (lv' := [(0, .ref v0), (3, .int v3)]) (st' := [.int 2, .int (v3 + 0), .ref z1]) rfl ?_
    exact wp_lv (lv' := [(0, .ref v0), (3, .int v3)]) rfl ⟨rfl, rfl, trivial⟩ (x_Sheet_cascade_156 e c)
  · refine wp_p (j := J_Sheet_cascade) 1 (pc' := 156) (lv' := [(0, .ref v0), (3, .int v3)]) (st' := [.int 1, .int (v3 + 0), .ref z1]) rfl ?_
    exact wp_lv (lv' := [(0, .ref v0), (3, .int v3)]) rfl ⟨rfl, rfl, trivial⟩ (x_Sheet_cascade_156 e c)
noncomputable def M_Sheet_cascade (v0 : Nat) (v1 : Int32) (g : g_S) : Option g_S :=
  (rQ g 109 v0 0).bind fun z1 =>
  (rQ g 110 z1 0).bind fun z2 =>
  (aQ g 5 z2 v1).bind fun z3 =>
  (L_Sheet_cascade_18 v0 v1 z3 (v1 * 11) 0 g).bind <| fun g6 =>
  (L_Sheet_cascade_58 v0 v1 z3 (v1 * 11) 0 g6).bind <| fun g9 =>
  if v1 = 0 then
    (rQ g9 109 v0 10).bind fun z10 =>
    (sI g9 z10 ((v1 * 11) + 0) 0).bind fun g11 =>
    (rQ g11 109 v0 10).bind fun z12 =>
    (sI g11 z12 ((v1 * 11) + 10) 0).bind fun g13 =>
    some g13
  else
    (rI g9 107 z3 0).bind fun z14 =>
    if z14 = 10 then
      k_Sheet_cascade_132 v0 (v1 * 11) g9
    else
      (vc g9 107 z3 (M_Node_isPieceTag z3 g9)).bind fun z15 =>
      if z15 = 0 then
        (rQ g9 109 v0 10).bind fun z16 =>
        (aI g9 0 z16 ((v1 * 11) + 10)).bind fun z17 =>
        if z17 = 0 then
          some g9
        else
          (rQ g9 109 v0 10).bind fun z18 =>
          (aI g9 0 z18 ((v1 * 11) + 0)).bind fun z19 =>
          if z19 = 1 then
            (rQ g9 109 v0 10).bind fun z20 =>
            (sI g9 z20 ((v1 * 11) + 0) 0).bind fun g21 =>
            some g21
          else
            some g9
      else
        k_Sheet_cascade_132 v0 (v1 * 11) g9
set_option maxRecDepth 20000 in
theorem d_Sheet_cascade {L : Nat} {xs : Nat → Int32} {Q : Option Value → ab_H → Prop} {v0 : Nat} {v1 : Int32} {g : g_S} {out : g_S} (e : M_Sheet_cascade v0 v1 g = some out) (c : Q none (hp out)) : mw (ab_ext L xs) J_Sheet_cascade [.ref v0, .int v1] (hp g) Q := by
  unfold M_Sheet_cascade at e
  refine wp_p (j := J_Sheet_cascade) 1 (pc' := 1) (lv' := [(0, .ref v0), (1, .int v1)]) (st' := [.ref v0]) rfl ?_
  refine x_gQ e rfl rfl fd_9_0 rfl (fun z1 e => ?_)
  refine x_gQ e rfl rfl fd_10_0 rfl (fun z2 e => ?_)
  refine wp_p (j := J_Sheet_cascade) 1 (pc' := 8) (lv' := [(0, .ref v0), (1, .int v1)]) (st' := [.int v1, .ref z2]) rfl ?_
  refine x_aQ e rfl rfl rfl (fun z3 e => ?_)
  refine wp_p (j := J_Sheet_cascade) 7 (pc' := 18) (lv' := [(4, .int 0), (3, .int (v1 * 11)), (2, .ref z3), (0, .ref v0), (1, .int v1)]) (st' := []) rfl ?_
  obtain ⟨g6, h5, e⟩ := bd e
  refine wp_lv (lv' := [(0, .ref v0), (1, .int v1), (2, .ref z3), (3, .int (v1 * 11)), (4, .int 0)]) rfl ⟨rfl, rfl, rfl, rfl, rfl, trivial⟩ ?_
  refine l_Sheet_cascade_18 h5 ?_
  show wp (ab_ext L xs) J_Sheet_cascade 55 [(0, .ref v0), (1, .int v1), (2, .ref z3), (3, .int (v1 * 11))] [] (hp g6) Q
  refine wp_p (j := J_Sheet_cascade) 2 (pc' := 58) (lv' := [(4, .int 0), (0, .ref v0), (1, .int v1), (2, .ref z3), (3, .int (v1 * 11))]) (st' := []) rfl ?_
  obtain ⟨g9, h8, e⟩ := bd e
  refine wp_lv (lv' := [(0, .ref v0), (1, .int v1), (2, .ref z3), (3, .int (v1 * 11)), (4, .int 0)]) rfl ⟨rfl, rfl, rfl, rfl, rfl, trivial⟩ ?_
  refine l_Sheet_cascade_58 h8 ?_
  show wp (ab_ext L xs) J_Sheet_cascade 90 [(0, .ref v0), (1, .int v1), (2, .ref z3), (3, .int (v1 * 11))] [] (hp g9) Q
  refine wp_p (j := J_Sheet_cascade) 1 (pc' := 91) (lv' := [(0, .ref v0), (1, .int v1), (2, .ref z3), (3, .int (v1 * 11))]) (st' := [.int v1]) rfl ?_
  refine z_ne e rfl (fun e => ?_) (fun e => ?_)
  · refine wp_p (j := J_Sheet_cascade) 1 (pc' := 95) (lv' := [(0, .ref v0), (1, .int v1), (2, .ref z3), (3, .int (v1 * 11))]) (st' := [.ref v0]) rfl ?_
    refine x_gQ e rfl rfl fd_9_10 rfl (fun z10 e => ?_)
    refine wp_p (j := J_Sheet_cascade) 4 (pc' := 102) (lv' := [(0, .ref v0), (1, .int v1), (2, .ref z3), (3, .int (v1 * 11))]) (st' := [.int 0, .int ((v1 * 11) + 0), .ref z10]) rfl ?_
    refine x_sI e rfl rfl (fun g11 e => ?_)
    refine wp_p (j := J_Sheet_cascade) 1 (pc' := 104) (lv' := [(0, .ref v0), (1, .int v1), (2, .ref z3), (3, .int (v1 * 11))]) (st' := [.ref v0]) rfl ?_
    refine x_gQ e rfl rfl fd_9_10 rfl (fun z12 e => ?_)
    refine wp_p (j := J_Sheet_cascade) 4 (pc' := 112) (lv' := [(0, .ref v0), (1, .int v1), (2, .ref z3), (3, .int (v1 * 11))]) (st' := [.int 0, .int ((v1 * 11) + 10), .ref z12]) rfl ?_
    refine x_sI e rfl rfl (fun g13 e => ?_)
    refine wp_p (j := J_Sheet_cascade) 1 (pc' := 203) (lv' := [(0, .ref v0), (1, .int v1), (2, .ref z3), (3, .int (v1 * 11))]) (st' := []) rfl ?_
    have e := Option.some.inj e; subst e; exact wp_vret rfl rfl c
  · refine wp_p (j := J_Sheet_cascade) 1 (pc' := 117) (lv' := [(0, .ref v0), (1, .int v1), (2, .ref z3), (3, .int (v1 * 11))]) (st' := [.ref z3]) rfl ?_
    refine x_gI e rfl rfl fd_7_0 rfl (fun z14 e => ?_)
    refine wp_p (j := J_Sheet_cascade) 1 (pc' := 122) (lv' := [(0, .ref v0), (1, .int v1), (2, .ref z3), (3, .int (v1 * 11))]) (st' := [.int 10, .int z14]) rfl ?_
    refine x_eq e rfl (fun e => ?_) (fun e => ?_)
    · exact wp_lv (lv' := [(0, .ref v0), (3, .int (v1 * 11))]) rfl ⟨rfl, rfl, trivial⟩ (x_Sheet_cascade_132 e c)
    · refine wp_p (j := J_Sheet_cascade) 1 (pc' := 126) (lv' := [(0, .ref v0), (1, .int v1), (2, .ref z3), (3, .int (v1 * 11))]) (st' := [.ref z3]) rfl ?_
      refine x_cv1 (As := []) (rest := []) Value.int e rfl rfl rfl rfl rfl rfl (fun h => d_Node_isPieceTag h ⟨rfl, rfl⟩) (fun z15 e => ?_)
      refine z_eq e rfl (fun e => ?_) (fun e => ?_)
      · refine wp_p (j := J_Sheet_cascade) 1 (pc' := 171) (lv' := [(0, .ref v0), (1, .int v1), (2, .ref z3), (3, .int (v1 * 11))]) (st' := [.ref v0]) rfl ?_
        refine x_gQ e rfl rfl fd_9_10 rfl (fun z16 e => ?_)
        refine wp_p (j := J_Sheet_cascade) 3 (pc' := 178) (lv' := [(0, .ref v0), (1, .int v1), (2, .ref z3), (3, .int (v1 * 11))]) (st' := [.int ((v1 * 11) + 10), .ref z16]) rfl ?_
        refine x_aI e rfl rfl (fun z17 e => ?_)
        refine z_eq e rfl (fun e => ?_) (fun e => ?_)
        · have e := Option.some.inj e; subst e; exact wp_vret rfl rfl c
        · refine wp_p (j := J_Sheet_cascade) 1 (pc' := 183) (lv' := [(0, .ref v0), (1, .int v1), (2, .ref z3), (3, .int (v1 * 11))]) (st' := [.ref v0]) rfl ?_
          refine x_gQ e rfl rfl fd_9_10 rfl (fun z18 e => ?_)
          refine wp_p (j := J_Sheet_cascade) 3 (pc' := 189) (lv' := [(0, .ref v0), (1, .int v1), (2, .ref z3), (3, .int (v1 * 11))]) (st' := [.int ((v1 * 11) + 0), .ref z18]) rfl ?_
          refine x_aI e rfl rfl (fun z19 e => ?_)
          refine wp_p (j := J_Sheet_cascade) 1 (pc' := 191) (lv' := [(0, .ref v0), (1, .int v1), (2, .ref z3), (3, .int (v1 * 11))]) (st' := [.int 1, .int z19]) rfl ?_
          refine x_ne e rfl (fun e => ?_) (fun e => ?_)
          · refine wp_p (j := J_Sheet_cascade) 1 (pc' := 195) (lv' := [(0, .ref v0), (1, .int v1), (2, .ref z3), (3, .int (v1 * 11))]) (st' := [.ref v0]) rfl ?_
            refine x_gQ e rfl rfl fd_9_10 rfl (fun z20 e => ?_)
            refine wp_p (j := J_Sheet_cascade) 4 (pc' := 202) (lv' := [(0, .ref v0), (1, .int v1), (2, .ref z3), (3, .int (v1 * 11))]) (st' := [.int 0, .int ((v1 * 11) + 0), .ref z20]) rfl ?_
            refine x_sI e rfl rfl (fun g21 e => ?_)
            have e := Option.some.inj e; subst e; exact wp_vret rfl rfl c
          · have e := Option.some.inj e; subst e; exact wp_vret rfl rfl c
      · exact wp_lv (lv' := [(0, .ref v0), (3, .int (v1 * 11))]) rfl ⟨rfl, rfl, trivial⟩ (x_Sheet_cascade_132 e c)
def cL_Sheet_refresh_132 (L : Nat) (xs : Nat → Int32) (Q : Option Value → ab_H → Prop) (v0 : Nat) (out : (Int32 × g_S) ⊕ (g_S)) : Prop := match out with
  | .inl s => wp (ab_ext L xs) J_Sheet_refresh 132 [(0, .ref v0), (1, .int s.1)] [] (hp s.2) Q
  | .inr s => wp (ab_ext L xs) J_Sheet_refresh 187 [] [] (hp s) Q
noncomputable def b_Sheet_refresh_132 (v0 : Nat) (v1 : Int32) (g : g_S) : Option ((Int32 × g_S) ⊕ (g_S)) :=
  (rQ g 109 v0 0).bind fun z1 =>
  (rI g 110 z1 3).bind fun z2 =>
  if v1 < z2 then
    (rQ g 109 v0 0).bind fun z3 =>
    (rQ g 110 z3 0).bind fun z4 =>
    (rQ g 109 v0 0).bind fun z5 =>
    (rQ g 110 z5 2).bind fun z6 =>
    (aI g 0 z6 v1).bind fun z7 =>
    (aQ g 5 z4 z7).bind fun z8 =>
    (rI g 107 z8 0).bind fun z9 =>
    if z9 = 17 then
      some (.inl (v1 + 1, g))
    else
      (rQ g 109 v0 0).bind fun z10 =>
      (rQ g 110 z10 2).bind fun z11 =>
      (aI g 0 z11 v1).bind fun z12 =>
      (vc g 109 v0 (M_Sheet_cascade v0 z12 g)).bind fun g13 =>
      some (.inl (v1 + 1, g13))
  else
    some (.inr g)
set_option maxRecDepth 20000 in
theorem y_Sheet_refresh_132 {L : Nat} {xs : Nat → Int32} {Q : Option Value → ab_H → Prop} {v0 : Nat} {v1 : Int32} {g : g_S} {out : (Int32 × g_S) ⊕ (g_S)} (e : b_Sheet_refresh_132 v0 v1 g = some out) (c : cL_Sheet_refresh_132 L xs Q v0 out) : wp (ab_ext L xs) J_Sheet_refresh 132 [(0, .ref v0), (1, .int v1)] [] (hp g) Q := by
  unfold b_Sheet_refresh_132 at e
  refine wp_p (j := J_Sheet_refresh) 2 (pc' := 134) (lv' := [(0, .ref v0), (1, .int v1)]) (st' := [.ref v0, .int v1]) rfl ?_
  refine x_gQ e rfl rfl fd_9_0 rfl (fun z1 e => ?_)
  refine x_gI e rfl rfl fd_10_3 rfl (fun z2 e => ?_)
  refine x_ge e rfl (fun e => ?_) (fun e => ?_)
  · refine wp_p (j := J_Sheet_refresh) 1 (pc' := 144) (lv' := [(0, .ref v0), (1, .int v1)]) (st' := [.ref v0]) rfl ?_
    refine x_gQ e rfl rfl fd_9_0 rfl (fun z3 e => ?_)
    refine x_gQ e rfl rfl fd_10_0 rfl (fun z4 e => ?_)
    refine wp_p (j := J_Sheet_refresh) 1 (pc' := 151) (lv' := [(0, .ref v0), (1, .int v1)]) (st' := [.ref v0, .ref z4]) rfl ?_
    refine x_gQ e rfl rfl fd_9_0 rfl (fun z5 e => ?_)
    refine x_gQ e rfl rfl fd_10_2 rfl (fun z6 e => ?_)
    refine wp_p (j := J_Sheet_refresh) 1 (pc' := 158) (lv' := [(0, .ref v0), (1, .int v1)]) (st' := [.int v1, .ref z6, .ref z4]) rfl ?_
    refine x_aI e rfl rfl (fun z7 e => ?_)
    refine x_aQ e rfl rfl rfl (fun z8 e => ?_)
    refine x_gI e rfl rfl fd_7_0 rfl (fun z9 e => ?_)
    refine wp_p (j := J_Sheet_refresh) 1 (pc' := 165) (lv' := [(0, .ref v0), (1, .int v1)]) (st' := [.int 17, .int z9]) rfl ?_
    refine x_eq e rfl (fun e => ?_) (fun e => ?_)
    · refine wp_p (j := J_Sheet_refresh) 2 (pc' := 132) (lv' := [(1, .int (v1 + 1)), (0, .ref v0)]) (st' := []) rfl ?_
      have e := Option.some.inj e; subst e; exact wp_lv (lv' := [(0, .ref v0), (1, .int (v1 + 1))]) rfl ⟨rfl, rfl, trivial⟩ c
    · refine wp_p (j := J_Sheet_refresh) 2 (pc' := 170) (lv' := [(0, .ref v0), (1, .int v1)]) (st' := [.ref v0, .ref v0]) rfl ?_
      refine x_gQ e rfl rfl fd_9_0 rfl (fun z10 e => ?_)
      refine x_gQ e rfl rfl fd_10_2 rfl (fun z11 e => ?_)
      refine wp_p (j := J_Sheet_refresh) 1 (pc' := 177) (lv' := [(0, .ref v0), (1, .int v1)]) (st' := [.int v1, .ref z11, .ref v0]) rfl ?_
      refine x_aI e rfl rfl (fun z12 e => ?_)
      refine x_cv0 (As := [.int z12]) (rest := []) e rfl rfl rfl rfl rfl rfl (fun h => d_Sheet_cascade h ⟨rfl, rfl⟩) (fun g13 e => ?_)
      refine wp_p (j := J_Sheet_refresh) 2 (pc' := 132) (lv' := [(1, .int (v1 + 1)), (0, .ref v0)]) (st' := []) rfl ?_
      have e := Option.some.inj e; subst e; exact wp_lv (lv' := [(0, .ref v0), (1, .int (v1 + 1))]) rfl ⟨rfl, rfl, trivial⟩ c
  · have e := Option.some.inj e; subst e; exact wp_lv (lv' := []) rfl trivial c
noncomputable def L_Sheet_refresh_132 (v0 : Nat) (v1 : Int32) (g : g_S) : Option (g_S) := it (fun s : Int32 × g_S => b_Sheet_refresh_132 v0 s.1 s.2) (v1, g)
theorem l_Sheet_refresh_132 {L : Nat} {xs : Nat → Int32} {Q : Option Value → ab_H → Prop} {v0 : Nat} {v1 : Int32} {g : g_S} {r : g_S} (e : L_Sheet_refresh_132 v0 v1 g = some r) (c : cL_Sheet_refresh_132 L xs Q v0 (.inr r)) : wp (ab_ext L xs) J_Sheet_refresh 132 [(0, .ref v0), (1, .int v1)] [] (hp g) Q :=
  it_wp (P := fun s : Int32 × g_S => wp (ab_ext L xs) J_Sheet_refresh 132 [(0, .ref v0), (1, .int s.1)] [] (hp s.2) Q) (E := fun r => cL_Sheet_refresh_132 L xs Q v0 (.inr r)) (fun s out e c => y_Sheet_refresh_132 e (by cases out <;> exact c)) e c
theorem L_Sheet_refresh_132_eq (v0 : Nat) (v1 : Int32) (g : g_S) : L_Sheet_refresh_132 v0 v1 g = itc (b_Sheet_refresh_132 v0 v1 g) (fun s => L_Sheet_refresh_132 v0 s.1 s.2) := it_eq2 (fun s : Int32 × g_S => b_Sheet_refresh_132 v0 s.1 s.2) (v1, g)
def cL_Sheet_refresh_40 (L : Nat) (xs : Nat → Int32) (Q : Option Value → ab_H → Prop) (v0 : Nat) (out : (Int32 × g_S) ⊕ (g_S)) : Prop := match out with
  | .inl s => wp (ab_ext L xs) J_Sheet_refresh 40 [(0, .ref v0), (1, .int s.1)] [] (hp s.2) Q
  | .inr s => wp (ab_ext L xs) J_Sheet_refresh 130 [(0, .ref v0)] [] (hp s) Q
noncomputable def b_Sheet_refresh_40 (v0 : Nat) (v1 : Int32) (g : g_S) : Option ((Int32 × g_S) ⊕ (g_S)) :=
  (rQ g 109 v0 0).bind fun z1 =>
  (rI g 110 z1 3).bind fun z2 =>
  if v1 < z2 then
    (rQ g 109 v0 0).bind fun z3 =>
    (rQ g 110 z3 0).bind fun z4 =>
    (rQ g 109 v0 0).bind fun z5 =>
    (rQ g 110 z5 2).bind fun z6 =>
    (aI g 0 z6 v1).bind fun z7 =>
    (aQ g 5 z4 z7).bind fun z8 =>
    (rI g 107 z8 0).bind fun z9 =>
    if z9 = 17 then
      (rI g 107 z8 2).bind fun z10 =>
      if z10 = (-1) then
        some (.inl (v1 + 1, g))
      else
        (rQ g 109 v0 0).bind fun z11 =>
        (rQ g 110 z11 0).bind fun z12 =>
        (rI g 107 z8 2).bind fun z13 =>
        (aQ g 5 z12 z13).bind fun z14 =>
        (rI g 107 z14 0).bind fun z15 =>
        if z15 = 15 then
          (rQ g 107 z8 11).bind fun z16 =>
          (rQ g 104 z16 1).bind fun z17 =>
          (rQ g 107 z8 11).bind fun z18 =>
          (rI g 104 z18 2).bind fun z19 =>
          (vc g 109 v0 (M_Sheet_readSheet v0 z17 z19 g)).bind fun g20 =>
          some (.inl (v1 + 1, g20))
        else
          some (.inl (v1 + 1, g))
    else
      some (.inl (v1 + 1, g))
  else
    some (.inr g)
set_option maxRecDepth 20000 in
theorem y_Sheet_refresh_40 {L : Nat} {xs : Nat → Int32} {Q : Option Value → ab_H → Prop} {v0 : Nat} {v1 : Int32} {g : g_S} {out : (Int32 × g_S) ⊕ (g_S)} (e : b_Sheet_refresh_40 v0 v1 g = some out) (c : cL_Sheet_refresh_40 L xs Q v0 out) : wp (ab_ext L xs) J_Sheet_refresh 40 [(0, .ref v0), (1, .int v1)] [] (hp g) Q := by
  unfold b_Sheet_refresh_40 at e
  refine wp_p (j := J_Sheet_refresh) 2 (pc' := 42) (lv' := [(0, .ref v0), (1, .int v1)]) (st' := [.ref v0, .int v1]) rfl ?_
  refine x_gQ e rfl rfl fd_9_0 rfl (fun z1 e => ?_)
  refine x_gI e rfl rfl fd_10_3 rfl (fun z2 e => ?_)
  refine x_ge e rfl (fun e => ?_) (fun e => ?_)
  · refine wp_p (j := J_Sheet_refresh) 1 (pc' := 52) (lv' := [(0, .ref v0), (1, .int v1)]) (st' := [.ref v0]) rfl ?_
    refine x_gQ e rfl rfl fd_9_0 rfl (fun z3 e => ?_)
    refine x_gQ e rfl rfl fd_10_0 rfl (fun z4 e => ?_)
    refine wp_p (j := J_Sheet_refresh) 1 (pc' := 59) (lv' := [(0, .ref v0), (1, .int v1)]) (st' := [.ref v0, .ref z4]) rfl ?_
    refine x_gQ e rfl rfl fd_9_0 rfl (fun z5 e => ?_)
    refine x_gQ e rfl rfl fd_10_2 rfl (fun z6 e => ?_)
    refine wp_p (j := J_Sheet_refresh) 1 (pc' := 66) (lv' := [(0, .ref v0), (1, .int v1)]) (st' := [.int v1, .ref z6, .ref z4]) rfl ?_
    refine x_aI e rfl rfl (fun z7 e => ?_)
    refine x_aQ e rfl rfl rfl (fun z8 e => ?_)
    refine wp_p (j := J_Sheet_refresh) 2 (pc' := 70) (lv' := [(2, .ref z8), (0, .ref v0), (1, .int v1)]) (st' := [.ref z8]) rfl ?_
    refine x_gI e rfl rfl fd_7_0 rfl (fun z9 e => ?_)
    refine wp_p (j := J_Sheet_refresh) 1 (pc' := 75) (lv' := [(2, .ref z8), (0, .ref v0), (1, .int v1)]) (st' := [.int 17, .int z9]) rfl ?_
    refine x_ne e rfl (fun e => ?_) (fun e => ?_)
    · refine wp_p (j := J_Sheet_refresh) 1 (pc' := 79) (lv' := [(2, .ref z8), (0, .ref v0), (1, .int v1)]) (st' := [.ref z8]) rfl ?_
      refine x_gI e rfl rfl fd_7_2 rfl (fun z10 e => ?_)
      refine wp_p (j := J_Sheet_refresh) 1 (pc' := 83) (lv' := [(2, .ref z8), (0, .ref v0), (1, .int v1)]) (st' := [.int (-1), .int z10]) rfl ?_
      refine x_eq e rfl (fun e => ?_) (fun e => ?_)
      · refine wp_p (j := J_Sheet_refresh) 2 (pc' := 40) (lv' := [(1, .int (v1 + 1)), (2, .ref z8), (0, .ref v0)]) (st' := []) rfl ?_
        have e := Option.some.inj e; subst e; exact wp_lv (lv' := [(0, .ref v0), (1, .int (v1 + 1))]) rfl ⟨rfl, rfl, trivial⟩ c
      · refine wp_p (j := J_Sheet_refresh) 1 (pc' := 87) (lv' := [(2, .ref z8), (0, .ref v0), (1, .int v1)]) (st' := [.ref v0]) rfl ?_
        refine x_gQ e rfl rfl fd_9_0 rfl (fun z11 e => ?_)
        refine x_gQ e rfl rfl fd_10_0 rfl (fun z12 e => ?_)
        refine wp_p (j := J_Sheet_refresh) 1 (pc' := 94) (lv' := [(2, .ref z8), (0, .ref v0), (1, .int v1)]) (st' := [.ref z8, .ref z12]) rfl ?_
        refine x_gI e rfl rfl fd_7_2 rfl (fun z13 e => ?_)
        refine x_aQ e rfl rfl rfl (fun z14 e => ?_)
        refine x_gI e rfl rfl fd_7_0 rfl (fun z15 e => ?_)
        refine wp_p (j := J_Sheet_refresh) 1 (pc' := 103) (lv' := [(2, .ref z8), (0, .ref v0), (1, .int v1)]) (st' := [.int 15, .int z15]) rfl ?_
        refine x_ne e rfl (fun e => ?_) (fun e => ?_)
        · refine wp_p (j := J_Sheet_refresh) 2 (pc' := 108) (lv' := [(2, .ref z8), (0, .ref v0), (1, .int v1)]) (st' := [.ref z8, .ref v0]) rfl ?_
          refine x_gQ e rfl rfl fd_7_11 rfl (fun z16 e => ?_)
          refine x_gQ e rfl rfl fd_4_1 rfl (fun z17 e => ?_)
          refine wp_p (j := J_Sheet_refresh) 1 (pc' := 115) (lv' := [(2, .ref z8), (0, .ref v0), (1, .int v1)]) (st' := [.ref z8, .ref z17, .ref v0]) rfl ?_
          refine x_gQ e rfl rfl fd_7_11 rfl (fun z18 e => ?_)
          refine x_gI e rfl rfl fd_4_2 rfl (fun z19 e => ?_)
          refine x_cv0 (As := [.ref z17, .int z19]) (rest := []) e rfl rfl rfl rfl rfl rfl (fun h => d_Sheet_readSheet h ⟨rfl, rfl⟩) (fun g20 e => ?_)
          refine wp_p (j := J_Sheet_refresh) 2 (pc' := 40) (lv' := [(1, .int (v1 + 1)), (2, .ref z8), (0, .ref v0)]) (st' := []) rfl ?_
          have e := Option.some.inj e; subst e; exact wp_lv (lv' := [(0, .ref v0), (1, .int (v1 + 1))]) rfl ⟨rfl, rfl, trivial⟩ c
        · refine wp_p (j := J_Sheet_refresh) 2 (pc' := 40) (lv' := [(1, .int (v1 + 1)), (2, .ref z8), (0, .ref v0)]) (st' := []) rfl ?_
          have e := Option.some.inj e; subst e; exact wp_lv (lv' := [(0, .ref v0), (1, .int (v1 + 1))]) rfl ⟨rfl, rfl, trivial⟩ c
    · refine wp_p (j := J_Sheet_refresh) 2 (pc' := 40) (lv' := [(1, .int (v1 + 1)), (2, .ref z8), (0, .ref v0)]) (st' := []) rfl ?_
      have e := Option.some.inj e; subst e; exact wp_lv (lv' := [(0, .ref v0), (1, .int (v1 + 1))]) rfl ⟨rfl, rfl, trivial⟩ c
  · have e := Option.some.inj e; subst e; exact wp_lv (lv' := [(0, .ref v0)]) rfl ⟨rfl, trivial⟩ c
noncomputable def L_Sheet_refresh_40 (v0 : Nat) (v1 : Int32) (g : g_S) : Option (g_S) := it (fun s : Int32 × g_S => b_Sheet_refresh_40 v0 s.1 s.2) (v1, g)
theorem l_Sheet_refresh_40 {L : Nat} {xs : Nat → Int32} {Q : Option Value → ab_H → Prop} {v0 : Nat} {v1 : Int32} {g : g_S} {r : g_S} (e : L_Sheet_refresh_40 v0 v1 g = some r) (c : cL_Sheet_refresh_40 L xs Q v0 (.inr r)) : wp (ab_ext L xs) J_Sheet_refresh 40 [(0, .ref v0), (1, .int v1)] [] (hp g) Q :=
  it_wp (P := fun s : Int32 × g_S => wp (ab_ext L xs) J_Sheet_refresh 40 [(0, .ref v0), (1, .int s.1)] [] (hp s.2) Q) (E := fun r => cL_Sheet_refresh_40 L xs Q v0 (.inr r)) (fun s out e c => y_Sheet_refresh_40 e (by cases out <;> exact c)) e c
theorem L_Sheet_refresh_40_eq (v0 : Nat) (v1 : Int32) (g : g_S) : L_Sheet_refresh_40 v0 v1 g = itc (b_Sheet_refresh_40 v0 v1 g) (fun s => L_Sheet_refresh_40 v0 s.1 s.2) := it_eq2 (fun s : Int32 × g_S => b_Sheet_refresh_40 v0 s.1 s.2) (v1, g)
noncomputable def M_Sheet_refresh (v0 : Nat) (g : g_S) : Option g_S :=
  (rI g 109 v0 14).bind fun z1 =>
  (rQ g 109 v0 0).bind fun z2 =>
  (rI g 110 z2 6).bind fun z3 =>
  if z1 = z3 then
    some g
  else
    (rQ g 109 v0 0).bind fun z4 =>
    (rI g 110 z4 6).bind fun z5 =>
    (wI g 109 v0 14 z5).bind fun g6 =>
    (wI g6 109 v0 13 0).bind fun g7 =>
    (rQ g7 109 v0 0).bind fun z8 =>
    (vc g7 110 z8 (M_Tree_list z8 g7)).bind fun g9 =>
    (L_Sheet_refresh_40 v0 0 g9).bind <| fun g12 =>
    (L_Sheet_refresh_132 v0 0 g12).bind <| fun g15 =>
    some g15
set_option maxRecDepth 20000 in
theorem d_Sheet_refresh {L : Nat} {xs : Nat → Int32} {Q : Option Value → ab_H → Prop} {v0 : Nat} {g : g_S} {out : g_S} (e : M_Sheet_refresh v0 g = some out) (c : Q none (hp out)) : mw (ab_ext L xs) J_Sheet_refresh [.ref v0] (hp g) Q := by
  unfold M_Sheet_refresh at e
  refine wp_p (j := J_Sheet_refresh) 1 (pc' := 1) (lv' := [(0, .ref v0)]) (st' := [.ref v0]) rfl ?_
  refine x_gI e rfl rfl fd_9_14 rfl (fun z1 e => ?_)
  refine wp_p (j := J_Sheet_refresh) 1 (pc' := 5) (lv' := [(0, .ref v0)]) (st' := [.ref v0, .int z1]) rfl ?_
  refine x_gQ e rfl rfl fd_9_0 rfl (fun z2 e => ?_)
  refine x_gI e rfl rfl fd_10_6 rfl (fun z3 e => ?_)
  refine x_ne e rfl (fun e => ?_) (fun e => ?_)
  · have e := Option.some.inj e; subst e; exact wp_vret rfl rfl c
  · refine wp_p (j := J_Sheet_refresh) 2 (pc' := 17) (lv' := [(0, .ref v0)]) (st' := [.ref v0, .ref v0]) rfl ?_
    refine x_gQ e rfl rfl fd_9_0 rfl (fun z4 e => ?_)
    refine x_gI e rfl rfl fd_10_6 rfl (fun z5 e => ?_)
    refine x_pI e rfl rfl fw_9_14 rfl (fun g6 e => ?_)
    refine wp_p (j := J_Sheet_refresh) 2 (pc' := 28) (lv' := [(0, .ref v0)]) (st' := [.int 0, .ref v0]) rfl ?_
    refine x_pI e rfl rfl fw_9_13 rfl (fun g7 e => ?_)
    refine wp_p (j := J_Sheet_refresh) 1 (pc' := 32) (lv' := [(0, .ref v0)]) (st' := [.ref v0]) rfl ?_
    refine x_gQ e rfl rfl fd_9_0 rfl (fun z8 e => ?_)
    refine x_cv0 (As := []) (rest := []) e rfl rfl rfl rfl rfl rfl (fun h => d_Tree_list h ⟨rfl, rfl⟩) (fun g9 e => ?_)
    refine wp_p (j := J_Sheet_refresh) 2 (pc' := 40) (lv' := [(1, .int 0), (0, .ref v0)]) (st' := []) rfl ?_
    obtain ⟨g12, h11, e⟩ := bd e
    refine wp_lv (lv' := [(0, .ref v0), (1, .int 0)]) rfl ⟨rfl, rfl, trivial⟩ ?_
    refine l_Sheet_refresh_40 h11 ?_
    show wp (ab_ext L xs) J_Sheet_refresh 130 [(0, .ref v0)] [] (hp g12) Q
    refine wp_p (j := J_Sheet_refresh) 2 (pc' := 132) (lv' := [(1, .int 0), (0, .ref v0)]) (st' := []) rfl ?_
    obtain ⟨g15, h14, e⟩ := bd e
    refine wp_lv (lv' := [(0, .ref v0), (1, .int 0)]) rfl ⟨rfl, rfl, trivial⟩ ?_
    refine l_Sheet_refresh_132 h14 ?_
    show wp (ab_ext L xs) J_Sheet_refresh 187 [] [] (hp g15) Q
    have e := Option.some.inj e; subst e; exact wp_vret rfl rfl c
noncomputable def k_H_style_60 (v0 : Nat) (v2 : Int32) (w0 : Int32) (g : g_S) : Option (Int32 × g_S) :=
  if w0 < 0 then
    some ((-1), g)
  else
    (rQ g 111 v0 5).bind fun z1 =>
    (rQ g 109 z1 10).bind fun z2 =>
    (aI g 0 z2 ((w0 * 11) + v2)).bind fun z3 =>
    some (z3, g)
set_option maxRecDepth 20000 in
theorem x_H_style_60 {L : Nat} {xs : Nat → Int32} {Q : Option Value → ab_H → Prop} {v0 : Nat} {v2 : Int32} {w0 : Int32} {g : g_S} {out : Int32 × g_S} (e : k_H_style_60 v0 v2 w0 g = some out) (c : Q (some (.int out.1)) (hp out.2)) : wp (ab_ext L xs) J_H_style 60 [(0, .ref v0), (2, .int v2)] [.int w0] (hp g) Q := by
  unfold k_H_style_60 at e
  refine wp_p (j := J_H_style) 2 (pc' := 62) (lv' := [(3, .int w0), (0, .ref v0), (2, .int v2)]) (st' := [.int w0]) rfl ?_
  refine z_ge e rfl (fun e => ?_) (fun e => ?_)
  · refine wp_p (j := J_H_style) 2 (pc' := 83) (lv' := [(3, .int w0), (0, .ref v0), (2, .int v2)]) (st' := [.int (-1)]) rfl ?_
    have e := Option.some.inj e; subst e; exact wp_iret (ty := .int) rfl rfl rfl c
  · refine wp_p (j := J_H_style) 1 (pc' := 70) (lv' := [(3, .int w0), (0, .ref v0), (2, .int v2)]) (st' := [.ref v0]) rfl ?_
    refine x_gQ e rfl rfl fd_11_5 rfl (fun z1 e => ?_)
    refine x_gQ e rfl rfl fd_9_10 rfl (fun z2 e => ?_)
    refine wp_p (j := J_H_style) 5 (pc' := 82) (lv' := [(3, .int w0), (0, .ref v0), (2, .int v2)]) (st' := [.int ((w0 * 11) + v2), .ref z2]) rfl ?_
    refine x_aI e rfl rfl (fun z3 e => ?_)
    have e := Option.some.inj e; subst e; exact wp_iret (ty := .int) rfl rfl rfl c
noncomputable def M_H_style (v0 : Nat) (v1 : Int32) (v2 : Int32) (g : g_S) : Option (Int32 × g_S) :=
  (vc g 111 v0 (M_H_isNode v0 v1 g)).bind fun z1 =>
  if z1 = 0 then
    some ((-1), g)
  else
    if v2 < 0 then
      some ((-1), g)
    else
      if v2 < 11 then
        (rQ g 111 v0 5).bind fun z2 =>
        (vc g 109 z2 (M_Sheet_refresh z2 g)).bind fun g3 =>
        (rQ g3 111 v0 2).bind fun z4 =>
        (rQ g3 110 z4 0).bind fun z5 =>
        (aQ g3 5 z5 v1).bind fun z6 =>
        (rI g3 107 z6 0).bind fun z7 =>
        if z7 = 17 then
          (rQ g3 111 v0 2).bind fun z8 =>
          (rQ g3 110 z8 0).bind fun z9 =>
          (aQ g3 5 z9 v1).bind fun z10 =>
          (rI g3 107 z10 2).bind fun z11 =>
          k_H_style_60 v0 v2 z11 g3
        else
          k_H_style_60 v0 v2 v1 g3
      else
        some ((-1), g)
set_option maxRecDepth 20000 in
theorem d_H_style {L : Nat} {xs : Nat → Int32} {Q : Option Value → ab_H → Prop} {v0 : Nat} {v1 : Int32} {v2 : Int32} {g : g_S} {out : Int32 × g_S} (e : M_H_style v0 v1 v2 g = some out) (c : Q (some (.int out.1)) (hp out.2)) : mw (ab_ext L xs) J_H_style [.ref v0, .int v1, .int v2] (hp g) Q := by
  unfold M_H_style at e
  refine wp_p (j := J_H_style) 2 (pc' := 2) (lv' := [(0, .ref v0), (1, .int v1), (2, .int v2)]) (st' := [.int v1, .ref v0]) rfl ?_
  refine x_cv1 (As := [.int v1]) (rest := []) Value.int e rfl rfl rfl rfl rfl rfl (fun h => d_H_isNode h ⟨rfl, rfl⟩) (fun z1 e => ?_)
  refine z_eq e rfl (fun e => ?_) (fun e => ?_)
  · refine wp_p (j := J_H_style) 1 (pc' := 19) (lv' := [(0, .ref v0), (1, .int v1), (2, .int v2)]) (st' := [.int (-1)]) rfl ?_
    have e := Option.some.inj e; subst e; exact wp_iret (ty := .int) rfl rfl rfl c
  · refine wp_p (j := J_H_style) 1 (pc' := 9) (lv' := [(0, .ref v0), (1, .int v1), (2, .int v2)]) (st' := [.int v2]) rfl ?_
    refine z_lt e rfl (fun e => ?_) (fun e => ?_)
    · refine wp_p (j := J_H_style) 1 (pc' := 19) (lv' := [(0, .ref v0), (1, .int v1), (2, .int v2)]) (st' := [.int (-1)]) rfl ?_
      have e := Option.some.inj e; subst e; exact wp_iret (ty := .int) rfl rfl rfl c
    · refine wp_p (j := J_H_style) 2 (pc' := 15) (lv' := [(0, .ref v0), (1, .int v1), (2, .int v2)]) (st' := [.int 11, .int v2]) rfl ?_
      refine x_lt e rfl (fun e => ?_) (fun e => ?_)
      · refine wp_p (j := J_H_style) 1 (pc' := 21) (lv' := [(0, .ref v0), (1, .int v1), (2, .int v2)]) (st' := [.ref v0]) rfl ?_
        refine x_gQ e rfl rfl fd_11_5 rfl (fun z2 e => ?_)
        refine x_cv0 (As := []) (rest := []) e rfl rfl rfl rfl rfl rfl (fun h => d_Sheet_refresh h ⟨rfl, rfl⟩) (fun g3 e => ?_)
        refine wp_p (j := J_H_style) 1 (pc' := 28) (lv' := [(0, .ref v0), (1, .int v1), (2, .int v2)]) (st' := [.ref v0]) rfl ?_
        refine x_gQ e rfl rfl fd_11_2 rfl (fun z4 e => ?_)
        refine x_gQ e rfl rfl fd_10_0 rfl (fun z5 e => ?_)
        refine wp_p (j := J_H_style) 1 (pc' := 35) (lv' := [(0, .ref v0), (1, .int v1), (2, .int v2)]) (st' := [.int v1, .ref z5]) rfl ?_
        refine x_aQ e rfl rfl rfl (fun z6 e => ?_)
        refine x_gI e rfl rfl fd_7_0 rfl (fun z7 e => ?_)
        refine wp_p (j := J_H_style) 1 (pc' := 41) (lv' := [(0, .ref v0), (1, .int v1), (2, .int v2)]) (st' := [.int 17, .int z7]) rfl ?_
        refine x_ne e rfl (fun e => ?_) (fun e => ?_)
        · refine wp_p (j := J_H_style) 1 (pc' := 45) (lv' := [(0, .ref v0), (1, .int v1), (2, .int v2)]) (st' := [.ref v0]) rfl ?_
          refine x_gQ e rfl rfl fd_11_2 rfl (fun z8 e => ?_)
          refine x_gQ e rfl rfl fd_10_0 rfl (fun z9 e => ?_)
          refine wp_p (j := J_H_style) 1 (pc' := 52) (lv' := [(0, .ref v0), (1, .int v1), (2, .int v2)]) (st' := [.int v1, .ref z9]) rfl ?_
          refine x_aQ e rfl rfl rfl (fun z10 e => ?_)
          refine x_gI e rfl rfl fd_7_2 rfl (fun z11 e => ?_)
          refine wp_p (j := J_H_style) 1 (pc' := 60) (lv' := [(0, .ref v0), (1, .int v1), (2, .int v2)]) (st' := [.int z11]) rfl ?_
          exact wp_lv (lv' := [(0, .ref v0), (2, .int v2)]) rfl ⟨rfl, rfl, trivial⟩ (x_H_style_60 e c)
        · refine wp_p (j := J_H_style) 1 (pc' := 60) (lv' := [(0, .ref v0), (1, .int v1), (2, .int v2)]) (st' := [.int v1]) rfl ?_
          exact wp_lv (lv' := [(0, .ref v0), (2, .int v2)]) rfl ⟨rfl, rfl, trivial⟩ (x_H_style_60 e c)
      · refine wp_p (j := J_H_style) 1 (pc' := 19) (lv' := [(0, .ref v0), (1, .int v1), (2, .int v2)]) (st' := [.int (-1)]) rfl ?_
        have e := Option.some.inj e; subst e; exact wp_iret (ty := .int) rfl rfl rfl c
noncomputable def M_Layout_resize (v0 : Nat) (v1 : Int32) (g : g_S) : Option g_S :=
  (wI g 105 v0 3 v1).bind fun g1 =>
  (wI g1 105 v0 4 (-1)).bind fun g2 =>
  some g2
set_option maxRecDepth 20000 in
theorem d_Layout_resize {L : Nat} {xs : Nat → Int32} {Q : Option Value → ab_H → Prop} {v0 : Nat} {v1 : Int32} {g : g_S} {out : g_S} (e : M_Layout_resize v0 v1 g = some out) (c : Q none (hp out)) : mw (ab_ext L xs) J_Layout_resize [.ref v0, .int v1] (hp g) Q := by
  unfold M_Layout_resize at e
  refine wp_p (j := J_Layout_resize) 2 (pc' := 2) (lv' := [(0, .ref v0), (1, .int v1)]) (st' := [.int v1, .ref v0]) rfl ?_
  refine x_pI e rfl rfl fw_5_3 rfl (fun g1 e => ?_)
  refine wp_p (j := J_Layout_resize) 2 (pc' := 7) (lv' := [(0, .ref v0), (1, .int v1)]) (st' := [.int (-1), .ref v0]) rfl ?_
  refine x_pI e rfl rfl fw_5_4 rfl (fun g2 e => ?_)
  have e := Option.some.inj e; subst e; exact wp_vret rfl rfl c
noncomputable def M_H_screen (v0 : Nat) (v1 : Int32) (g : g_S) : Option (Int32 × g_S) :=
  if v1 < 20 then
    some ((-1), g)
  else
    if 96 < v1 then
      some ((-1), g)
    else
      (rQ g 111 v0 6).bind fun z1 =>
      (vc g 105 z1 (M_Layout_resize z1 v1 g)).bind fun g2 =>
      some (1, g2)
set_option maxRecDepth 20000 in
theorem d_H_screen {L : Nat} {xs : Nat → Int32} {Q : Option Value → ab_H → Prop} {v0 : Nat} {v1 : Int32} {g : g_S} {out : Int32 × g_S} (e : M_H_screen v0 v1 g = some out) (c : Q (some (.int out.1)) (hp out.2)) : mw (ab_ext L xs) J_H_screen [.ref v0, .int v1] (hp g) Q := by
  unfold M_H_screen at e
  refine wp_p (j := J_H_screen) 2 (pc' := 3) (lv' := [(0, .ref v0), (1, .int v1)]) (st' := [.int 20, .int v1]) rfl ?_
  refine x_lt e rfl (fun e => ?_) (fun e => ?_)
  · refine wp_p (j := J_H_screen) 1 (pc' := 13) (lv' := [(0, .ref v0), (1, .int v1)]) (st' := [.int (-1)]) rfl ?_
    have e := Option.some.inj e; subst e; exact wp_iret (ty := .int) rfl rfl rfl c
  · refine wp_p (j := J_H_screen) 2 (pc' := 9) (lv' := [(0, .ref v0), (1, .int v1)]) (st' := [.int 96, .int v1]) rfl ?_
    refine x_le e rfl (fun e => ?_) (fun e => ?_)
    · refine wp_p (j := J_H_screen) 1 (pc' := 13) (lv' := [(0, .ref v0), (1, .int v1)]) (st' := [.int (-1)]) rfl ?_
      have e := Option.some.inj e; subst e; exact wp_iret (ty := .int) rfl rfl rfl c
    · refine wp_p (j := J_H_screen) 1 (pc' := 15) (lv' := [(0, .ref v0), (1, .int v1)]) (st' := [.ref v0]) rfl ?_
      refine x_gQ e rfl rfl fd_11_6 rfl (fun z1 e => ?_)
      refine wp_p (j := J_H_screen) 1 (pc' := 19) (lv' := [(0, .ref v0), (1, .int v1)]) (st' := [.int v1, .ref z1]) rfl ?_
      refine x_cv0 (As := [.int v1]) (rest := []) e rfl rfl rfl rfl rfl rfl (fun h => d_Layout_resize h ⟨rfl, rfl⟩) (fun g2 e => ?_)
      refine wp_p (j := J_H_screen) 1 (pc' := 23) (lv' := [(0, .ref v0), (1, .int v1)]) (st' := [.int 1]) rfl ?_
      have e := Option.some.inj e; subst e; exact wp_iret (ty := .int) rfl rfl rfl c
noncomputable def M_Layout_look (v0 : Nat) (v1 : Int32) (v2 : Int32) (g : g_S) : Option Int32 :=
  (rQ g 105 v0 1).bind fun z1 =>
  (rQ g 109 z1 10).bind fun z2 =>
  (aI g 0 z2 ((v1 * 11) + v2)).bind fun z3 =>
  some z3
set_option maxRecDepth 20000 in
theorem d_Layout_look {L : Nat} {xs : Nat → Int32} {Q : Option Value → ab_H → Prop} {v0 : Nat} {v1 : Int32} {v2 : Int32} {g : g_S} {out : Int32} (e : M_Layout_look v0 v1 v2 g = some out) (c : Q (some (.int out)) (hp g)) : mw (ab_ext L xs) J_Layout_look [.ref v0, .int v1, .int v2] (hp g) Q := by
  unfold M_Layout_look at e
  refine wp_p (j := J_Layout_look) 1 (pc' := 1) (lv' := [(0, .ref v0), (1, .int v1), (2, .int v2)]) (st' := [.ref v0]) rfl ?_
  refine x_gQ e rfl rfl fd_5_1 rfl (fun z1 e => ?_)
  refine x_gQ e rfl rfl fd_9_10 rfl (fun z2 e => ?_)
  refine wp_p (j := J_Layout_look) 5 (pc' := 13) (lv' := [(0, .ref v0), (1, .int v1), (2, .int v2)]) (st' := [.int ((v1 * 11) + v2), .ref z2]) rfl ?_
  refine x_aI e rfl rfl (fun z3 e => ?_)
  have e := Option.some.inj e; subst e; exact wp_iret (ty := .int) rfl rfl rfl c
noncomputable def k_Layout_kindOf_104 (v5 : Int32) (g : g_S) : Option Int32 :=
  if v5 = 0 then
    some 3
  else
    some 0
set_option maxRecDepth 20000 in
theorem x_Layout_kindOf_104 {L : Nat} {xs : Nat → Int32} {Q : Option Value → ab_H → Prop} {v5 : Int32} {g : g_S} {out : Int32} (e : k_Layout_kindOf_104 v5 g = some out) (c : Q (some (.int out)) (hp g)) : wp (ab_ext L xs) J_Layout_kindOf 104 [(5, .int v5)] [] (hp g) Q := by
  unfold k_Layout_kindOf_104 at e
  refine wp_p (j := J_Layout_kindOf) 1 (pc' := 106) (lv' := [(5, .int v5)]) (st' := [.int v5]) rfl ?_
  refine z_eq e rfl (fun e => ?_) (fun e => ?_)
  · refine wp_p (j := J_Layout_kindOf) 1 (pc' := 114) (lv' := [(5, .int v5)]) (st' := [.int 3]) rfl ?_
    have e := Option.some.inj e; subst e; exact wp_iret (ty := .int) rfl rfl rfl c
  · refine wp_p (j := J_Layout_kindOf) 2 (pc' := 114) (lv' := [(5, .int v5)]) (st' := [.int 0]) rfl ?_
    have e := Option.some.inj e; subst e; exact wp_iret (ty := .int) rfl rfl rfl c
noncomputable def k_Layout_kindOf_84 (v0 : Nat) (v1 : Int32) (v2 : Nat) (v3 : Int32) (w0 : Int32) (g : g_S) : Option Int32 :=
  (rI g 107 v2 0).bind fun z1 =>
  if z1 = 17 then
    k_Layout_kindOf_104 w0 g
  else
    (rI g 107 v2 0).bind fun z2 =>
    if z2 = 10 then
      k_Layout_kindOf_104 w0 g
    else
      (vc g 107 v2 (M_Node_isPieceTag v2 g)).bind fun z3 =>
      if z3 = 0 then
        if w0 = 0 then
          if v3 = 3 then
            (rI g 107 v2 0).bind fun z4 =>
            if z4 = 11 then
              some 0
            else
              some 3
          else
            (vc g 105 v0 (M_Layout_look v0 v1 0 g)).bind fun z5 =>
            if z5 = 1 then
              some 3
            else
              some 1
        else
          some 1
      else
        some 2
set_option maxRecDepth 20000 in
theorem x_Layout_kindOf_84 {L : Nat} {xs : Nat → Int32} {Q : Option Value → ab_H → Prop} {v0 : Nat} {v1 : Int32} {v2 : Nat} {v3 : Int32} {w0 : Int32} {g : g_S} {out : Int32} (e : k_Layout_kindOf_84 v0 v1 v2 v3 w0 g = some out) (c : Q (some (.int out)) (hp g)) : wp (ab_ext L xs) J_Layout_kindOf 84 [(0, .ref v0), (1, .int v1), (2, .ref v2), (3, .int v3)] [.int w0] (hp g) Q := by
  unfold k_Layout_kindOf_84 at e
  refine wp_p (j := J_Layout_kindOf) 2 (pc' := 87) (lv' := [(5, .int w0), (0, .ref v0), (1, .int v1), (2, .ref v2), (3, .int v3)]) (st' := [.ref v2]) rfl ?_
  refine x_gI e rfl rfl fd_7_0 rfl (fun z1 e => ?_)
  refine wp_p (j := J_Layout_kindOf) 1 (pc' := 92) (lv' := [(5, .int w0), (0, .ref v0), (1, .int v1), (2, .ref v2), (3, .int v3)]) (st' := [.int 17, .int z1]) rfl ?_
  refine x_eq e rfl (fun e => ?_) (fun e => ?_)
  · exact wp_lv (lv' := [(5, .int w0)]) rfl ⟨rfl, trivial⟩ (x_Layout_kindOf_104 e c)
  · refine wp_p (j := J_Layout_kindOf) 1 (pc' := 96) (lv' := [(5, .int w0), (0, .ref v0), (1, .int v1), (2, .ref v2), (3, .int v3)]) (st' := [.ref v2]) rfl ?_
    refine x_gI e rfl rfl fd_7_0 rfl (fun z2 e => ?_)
    refine wp_p (j := J_Layout_kindOf) 1 (pc' := 101) (lv' := [(5, .int w0), (0, .ref v0), (1, .int v1), (2, .ref v2), (3, .int v3)]) (st' := [.int 10, .int z2]) rfl ?_
    refine x_ne e rfl (fun e => ?_) (fun e => ?_)
    · exact wp_lv (lv' := [(5, .int w0)]) rfl ⟨rfl, trivial⟩ (x_Layout_kindOf_104 e c)
    · refine wp_p (j := J_Layout_kindOf) 1 (pc' := 116) (lv' := [(5, .int w0), (0, .ref v0), (1, .int v1), (2, .ref v2), (3, .int v3)]) (st' := [.ref v2]) rfl ?_
      refine x_cv1 (As := []) (rest := []) Value.int e rfl rfl rfl rfl rfl rfl (fun h => d_Node_isPieceTag h ⟨rfl, rfl⟩) (fun z3 e => ?_)
      refine z_eq e rfl (fun e => ?_) (fun e => ?_)
      · refine wp_p (j := J_Layout_kindOf) 1 (pc' := 126) (lv' := [(5, .int w0), (0, .ref v0), (1, .int v1), (2, .ref v2), (3, .int v3)]) (st' := [.int w0]) rfl ?_
        refine z_eq e rfl (fun e => ?_) (fun e => ?_)
        · refine wp_p (j := J_Layout_kindOf) 2 (pc' := 133) (lv' := [(5, .int w0), (0, .ref v0), (1, .int v1), (2, .ref v2), (3, .int v3)]) (st' := [.int 3, .int v3]) rfl ?_
          refine x_ne e rfl (fun e => ?_) (fun e => ?_)
          · refine wp_p (j := J_Layout_kindOf) 1 (pc' := 137) (lv' := [(5, .int w0), (0, .ref v0), (1, .int v1), (2, .ref v2), (3, .int v3)]) (st' := [.ref v2]) rfl ?_
            refine x_gI e rfl rfl fd_7_0 rfl (fun z4 e => ?_)
            refine wp_p (j := J_Layout_kindOf) 1 (pc' := 142) (lv' := [(5, .int w0), (0, .ref v0), (1, .int v1), (2, .ref v2), (3, .int v3)]) (st' := [.int 11, .int z4]) rfl ?_
            refine x_ne e rfl (fun e => ?_) (fun e => ?_)
            · refine wp_p (j := J_Layout_kindOf) 2 (pc' := 150) (lv' := [(5, .int w0), (0, .ref v0), (1, .int v1), (2, .ref v2), (3, .int v3)]) (st' := [.int 0]) rfl ?_
              have e := Option.some.inj e; subst e; exact wp_iret (ty := .int) rfl rfl rfl c
            · refine wp_p (j := J_Layout_kindOf) 1 (pc' := 150) (lv' := [(5, .int w0), (0, .ref v0), (1, .int v1), (2, .ref v2), (3, .int v3)]) (st' := [.int 3]) rfl ?_
              have e := Option.some.inj e; subst e; exact wp_iret (ty := .int) rfl rfl rfl c
          · refine wp_p (j := J_Layout_kindOf) 3 (pc' := 154) (lv' := [(5, .int w0), (0, .ref v0), (1, .int v1), (2, .ref v2), (3, .int v3)]) (st' := [.int 0, .int v1, .ref v0]) rfl ?_
            refine x_cv1 (As := [.int v1, .int 0]) (rest := []) Value.int e rfl rfl rfl rfl rfl rfl (fun h => d_Layout_look h ⟨rfl, rfl⟩) (fun z5 e => ?_)
            refine wp_p (j := J_Layout_kindOf) 1 (pc' := 158) (lv' := [(5, .int w0), (0, .ref v0), (1, .int v1), (2, .ref v2), (3, .int v3)]) (st' := [.int 1, .int z5]) rfl ?_
            refine x_ne e rfl (fun e => ?_) (fun e => ?_)
            · refine wp_p (j := J_Layout_kindOf) 2 (pc' := 166) (lv' := [(5, .int w0), (0, .ref v0), (1, .int v1), (2, .ref v2), (3, .int v3)]) (st' := [.int 3]) rfl ?_
              have e := Option.some.inj e; subst e; exact wp_iret (ty := .int) rfl rfl rfl c
            · refine wp_p (j := J_Layout_kindOf) 1 (pc' := 166) (lv' := [(5, .int w0), (0, .ref v0), (1, .int v1), (2, .ref v2), (3, .int v3)]) (st' := [.int 1]) rfl ?_
              have e := Option.some.inj e; subst e; exact wp_iret (ty := .int) rfl rfl rfl c
        · refine wp_p (j := J_Layout_kindOf) 1 (pc' := 130) (lv' := [(5, .int w0), (0, .ref v0), (1, .int v1), (2, .ref v2), (3, .int v3)]) (st' := [.int 1]) rfl ?_
          have e := Option.some.inj e; subst e; exact wp_iret (ty := .int) rfl rfl rfl c
      · refine wp_p (j := J_Layout_kindOf) 1 (pc' := 123) (lv' := [(5, .int w0), (0, .ref v0), (1, .int v1), (2, .ref v2), (3, .int v3)]) (st' := [.int 2]) rfl ?_
        have e := Option.some.inj e; subst e; exact wp_iret (ty := .int) rfl rfl rfl c
noncomputable def k_Layout_kindOf_83 (v0 : Nat) (v1 : Int32) (v2 : Nat) (v3 : Int32) (g : g_S) : Option Int32 :=
  k_Layout_kindOf_84 v0 v1 v2 v3 0 g
set_option maxRecDepth 20000 in
theorem x_Layout_kindOf_83 {L : Nat} {xs : Nat → Int32} {Q : Option Value → ab_H → Prop} {v0 : Nat} {v1 : Int32} {v2 : Nat} {v3 : Int32} {g : g_S} {out : Int32} (e : k_Layout_kindOf_83 v0 v1 v2 v3 g = some out) (c : Q (some (.int out)) (hp g)) : wp (ab_ext L xs) J_Layout_kindOf 83 [(0, .ref v0), (1, .int v1), (2, .ref v2), (3, .int v3)] [] (hp g) Q := by
  unfold k_Layout_kindOf_83 at e
  refine wp_p (j := J_Layout_kindOf) 1 (pc' := 84) (lv' := [(0, .ref v0), (1, .int v1), (2, .ref v2), (3, .int v3)]) (st' := [.int 0]) rfl ?_
  exact wp_lv (lv' := [(0, .ref v0), (1, .int v1), (2, .ref v2), (3, .int v3)]) rfl ⟨rfl, rfl, rfl, rfl, trivial⟩ (x_Layout_kindOf_84 e c)
noncomputable def k_Layout_kindOf_43 (v0 : Nat) (v1 : Int32) (v2 : Nat) (v3 : Int32) (w0 : Int32) (g : g_S) : Option Int32 :=
  if w0 = 0 then
    if v3 = 0 then
      some 0
    else
      if v3 = 2 then
        some 0
      else
        if v3 = 1 then
          (rI g 107 v2 2).bind fun z1 =>
          (vc g 105 v0 (M_Layout_look v0 z1 0 g)).bind fun z2 =>
          if z2 = 3 then
            k_Layout_kindOf_84 v0 v1 v2 v3 1 g
          else
            k_Layout_kindOf_83 v0 v1 v2 v3 g
        else
          k_Layout_kindOf_83 v0 v1 v2 v3 g
  else
    some 0
set_option maxRecDepth 20000 in
theorem x_Layout_kindOf_43 {L : Nat} {xs : Nat → Int32} {Q : Option Value → ab_H → Prop} {v0 : Nat} {v1 : Int32} {v2 : Nat} {v3 : Int32} {w0 : Int32} {g : g_S} {out : Int32} (e : k_Layout_kindOf_43 v0 v1 v2 v3 w0 g = some out) (c : Q (some (.int out)) (hp g)) : wp (ab_ext L xs) J_Layout_kindOf 43 [(0, .ref v0), (1, .int v1), (2, .ref v2), (3, .int v3)] [.int w0] (hp g) Q := by
  unfold k_Layout_kindOf_43 at e
  refine wp_p (j := J_Layout_kindOf) 2 (pc' := 47) (lv' := [(4, .int w0), (0, .ref v0), (1, .int v1), (2, .ref v2), (3, .int v3)]) (st' := [.int w0]) rfl ?_
  refine z_ne e rfl (fun e => ?_) (fun e => ?_)
  · refine wp_p (j := J_Layout_kindOf) 1 (pc' := 51) (lv' := [(4, .int w0), (0, .ref v0), (1, .int v1), (2, .ref v2), (3, .int v3)]) (st' := [.int v3]) rfl ?_
    refine z_eq e rfl (fun e => ?_) (fun e => ?_)
    · refine wp_p (j := J_Layout_kindOf) 1 (pc' := 60) (lv' := [(4, .int w0), (0, .ref v0), (1, .int v1), (2, .ref v2), (3, .int v3)]) (st' := [.int 0]) rfl ?_
      have e := Option.some.inj e; subst e; exact wp_iret (ty := .int) rfl rfl rfl c
    · refine wp_p (j := J_Layout_kindOf) 2 (pc' := 56) (lv' := [(4, .int w0), (0, .ref v0), (1, .int v1), (2, .ref v2), (3, .int v3)]) (st' := [.int 2, .int v3]) rfl ?_
      refine x_ne e rfl (fun e => ?_) (fun e => ?_)
      · refine wp_p (j := J_Layout_kindOf) 1 (pc' := 60) (lv' := [(4, .int w0), (0, .ref v0), (1, .int v1), (2, .ref v2), (3, .int v3)]) (st' := [.int 0]) rfl ?_
        have e := Option.some.inj e; subst e; exact wp_iret (ty := .int) rfl rfl rfl c
      · refine wp_p (j := J_Layout_kindOf) 2 (pc' := 63) (lv' := [(4, .int w0), (0, .ref v0), (1, .int v1), (2, .ref v2), (3, .int v3)]) (st' := [.int 1, .int v3]) rfl ?_
        refine x_ne e rfl (fun e => ?_) (fun e => ?_)
        · refine wp_p (j := J_Layout_kindOf) 2 (pc' := 68) (lv' := [(4, .int w0), (0, .ref v0), (1, .int v1), (2, .ref v2), (3, .int v3)]) (st' := [.ref v2, .ref v0]) rfl ?_
          refine x_gI e rfl rfl fd_7_2 rfl (fun z1 e => ?_)
          refine wp_p (j := J_Layout_kindOf) 1 (pc' := 72) (lv' := [(4, .int w0), (0, .ref v0), (1, .int v1), (2, .ref v2), (3, .int v3)]) (st' := [.int 0, .int z1, .ref v0]) rfl ?_
          refine x_cv1 (As := [.int z1, .int 0]) (rest := []) Value.int e rfl rfl rfl rfl rfl rfl (fun h => d_Layout_look h ⟨rfl, rfl⟩) (fun z2 e => ?_)
          refine wp_p (j := J_Layout_kindOf) 1 (pc' := 76) (lv' := [(4, .int w0), (0, .ref v0), (1, .int v1), (2, .ref v2), (3, .int v3)]) (st' := [.int 3, .int z2]) rfl ?_
          refine x_ne e rfl (fun e => ?_) (fun e => ?_)
          · refine wp_p (j := J_Layout_kindOf) 2 (pc' := 84) (lv' := [(4, .int w0), (0, .ref v0), (1, .int v1), (2, .ref v2), (3, .int v3)]) (st' := [.int 1]) rfl ?_
            exact wp_lv (lv' := [(0, .ref v0), (1, .int v1), (2, .ref v2), (3, .int v3)]) rfl ⟨rfl, rfl, rfl, rfl, trivial⟩ (x_Layout_kindOf_84 e c)
          · exact wp_lv (lv' := [(0, .ref v0), (1, .int v1), (2, .ref v2), (3, .int v3)]) rfl ⟨rfl, rfl, rfl, rfl, trivial⟩ (x_Layout_kindOf_83 e c)
        · exact wp_lv (lv' := [(0, .ref v0), (1, .int v1), (2, .ref v2), (3, .int v3)]) rfl ⟨rfl, rfl, rfl, rfl, trivial⟩ (x_Layout_kindOf_83 e c)
  · refine wp_p (j := J_Layout_kindOf) 1 (pc' := 60) (lv' := [(4, .int w0), (0, .ref v0), (1, .int v1), (2, .ref v2), (3, .int v3)]) (st' := [.int 0]) rfl ?_
    have e := Option.some.inj e; subst e; exact wp_iret (ty := .int) rfl rfl rfl c
noncomputable def k_Layout_kindOf_42 (v0 : Nat) (v1 : Int32) (v2 : Nat) (v3 : Int32) (g : g_S) : Option Int32 :=
  k_Layout_kindOf_43 v0 v1 v2 v3 0 g
set_option maxRecDepth 20000 in
theorem x_Layout_kindOf_42 {L : Nat} {xs : Nat → Int32} {Q : Option Value → ab_H → Prop} {v0 : Nat} {v1 : Int32} {v2 : Nat} {v3 : Int32} {g : g_S} {out : Int32} (e : k_Layout_kindOf_42 v0 v1 v2 v3 g = some out) (c : Q (some (.int out)) (hp g)) : wp (ab_ext L xs) J_Layout_kindOf 42 [(0, .ref v0), (1, .int v1), (2, .ref v2), (3, .int v3)] [] (hp g) Q := by
  unfold k_Layout_kindOf_42 at e
  refine wp_p (j := J_Layout_kindOf) 1 (pc' := 43) (lv' := [(0, .ref v0), (1, .int v1), (2, .ref v2), (3, .int v3)]) (st' := [.int 0]) rfl ?_
  exact wp_lv (lv' := [(0, .ref v0), (1, .int v1), (2, .ref v2), (3, .int v3)]) rfl ⟨rfl, rfl, rfl, rfl, trivial⟩ (x_Layout_kindOf_43 e c)
noncomputable def M_Layout_kindOf (v0 : Nat) (v1 : Int32) (v2 : Nat) (g : g_S) : Option Int32 :=
  if v1 = 0 then
    some 1
  else
    (rQ g 105 v0 2).bind fun z1 =>
    (rI g 107 v2 2).bind fun z2 =>
    (aQ g 8 z1 z2).bind fun z3 =>
    (rI g 103 z3 0).bind fun z4 =>
    (rI g 107 v2 0).bind fun z5 =>
    if z5 = 17 then
      k_Layout_kindOf_42 v0 v1 v2 z4 g
    else
      (vc g 105 v0 (M_Layout_look v0 v1 0 g)).bind fun z6 =>
      if z6 = 2 then
        k_Layout_kindOf_43 v0 v1 v2 z4 1 g
      else
        k_Layout_kindOf_42 v0 v1 v2 z4 g
set_option maxRecDepth 20000 in
theorem d_Layout_kindOf {L : Nat} {xs : Nat → Int32} {Q : Option Value → ab_H → Prop} {v0 : Nat} {v1 : Int32} {v2 : Nat} {g : g_S} {out : Int32} (e : M_Layout_kindOf v0 v1 v2 g = some out) (c : Q (some (.int out)) (hp g)) : mw (ab_ext L xs) J_Layout_kindOf [.ref v0, .int v1, .ref v2] (hp g) Q := by
  unfold M_Layout_kindOf at e
  refine wp_p (j := J_Layout_kindOf) 1 (pc' := 1) (lv' := [(0, .ref v0), (1, .int v1), (2, .ref v2)]) (st' := [.int v1]) rfl ?_
  refine z_ne e rfl (fun e => ?_) (fun e => ?_)
  · refine wp_p (j := J_Layout_kindOf) 1 (pc' := 5) (lv' := [(0, .ref v0), (1, .int v1), (2, .ref v2)]) (st' := [.int 1]) rfl ?_
    have e := Option.some.inj e; subst e; exact wp_iret (ty := .int) rfl rfl rfl c
  · refine wp_p (j := J_Layout_kindOf) 1 (pc' := 7) (lv' := [(0, .ref v0), (1, .int v1), (2, .ref v2)]) (st' := [.ref v0]) rfl ?_
    refine x_gQ e rfl rfl fd_5_2 rfl (fun z1 e => ?_)
    refine wp_p (j := J_Layout_kindOf) 1 (pc' := 11) (lv' := [(0, .ref v0), (1, .int v1), (2, .ref v2)]) (st' := [.ref v2, .ref z1]) rfl ?_
    refine x_gI e rfl rfl fd_7_2 rfl (fun z2 e => ?_)
    refine x_aQ e rfl rfl rfl (fun z3 e => ?_)
    refine x_gI e rfl rfl fd_3_0 rfl (fun z4 e => ?_)
    refine wp_p (j := J_Layout_kindOf) 2 (pc' := 20) (lv' := [(3, .int z4), (0, .ref v0), (1, .int v1), (2, .ref v2)]) (st' := [.ref v2]) rfl ?_
    refine x_gI e rfl rfl fd_7_0 rfl (fun z5 e => ?_)
    refine wp_p (j := J_Layout_kindOf) 1 (pc' := 25) (lv' := [(3, .int z4), (0, .ref v0), (1, .int v1), (2, .ref v2)]) (st' := [.int 17, .int z5]) rfl ?_
    refine x_eq e rfl (fun e => ?_) (fun e => ?_)
    · exact wp_lv (lv' := [(0, .ref v0), (1, .int v1), (2, .ref v2), (3, .int z4)]) rfl ⟨rfl, rfl, rfl, rfl, trivial⟩ (x_Layout_kindOf_42 e c)
    · refine wp_p (j := J_Layout_kindOf) 3 (pc' := 31) (lv' := [(3, .int z4), (0, .ref v0), (1, .int v1), (2, .ref v2)]) (st' := [.int 0, .int v1, .ref v0]) rfl ?_
      refine x_cv1 (As := [.int v1, .int 0]) (rest := []) Value.int e rfl rfl rfl rfl rfl rfl (fun h => d_Layout_look h ⟨rfl, rfl⟩) (fun z6 e => ?_)
      refine wp_p (j := J_Layout_kindOf) 1 (pc' := 35) (lv' := [(3, .int z4), (0, .ref v0), (1, .int v1), (2, .ref v2)]) (st' := [.int 2, .int z6]) rfl ?_
      refine x_ne e rfl (fun e => ?_) (fun e => ?_)
      · refine wp_p (j := J_Layout_kindOf) 2 (pc' := 43) (lv' := [(3, .int z4), (0, .ref v0), (1, .int v1), (2, .ref v2)]) (st' := [.int 1]) rfl ?_
        exact wp_lv (lv' := [(0, .ref v0), (1, .int v1), (2, .ref v2), (3, .int z4)]) rfl ⟨rfl, rfl, rfl, rfl, trivial⟩ (x_Layout_kindOf_43 e c)
      · exact wp_lv (lv' := [(0, .ref v0), (1, .int v1), (2, .ref v2), (3, .int z4)]) rfl ⟨rfl, rfl, rfl, rfl, trivial⟩ (x_Layout_kindOf_42 e c)
noncomputable def M_Bytes_glyphWidth (v0 : Int32) (g : g_S) : Option Int32 :=
  if v0 = 33 then
    some 2
  else if v0 = 39 then
    some 2
  else if v0 = 44 then
    some 2
  else if v0 = 46 then
    some 2
  else if v0 = 58 then
    some 2
  else if v0 = 59 then
    some 2
  else if v0 = 64 then
    some 5
  else if v0 = 77 then
    some 5
  else if v0 = 87 then
    some 5
  else if v0 = 105 then
    some 2
  else if v0 = 106 then
    some 2
  else if v0 = 108 then
    some 2
  else if v0 = 109 then
    some 5
  else if v0 = 119 then
    some 5
  else if v0 = 124 then
    some 2
  else
    some 4
set_option maxRecDepth 20000 in
theorem d_Bytes_glyphWidth {L : Nat} {xs : Nat → Int32} {Q : Option Value → ab_H → Prop} {v0 : Int32} {g : g_S} {out : Int32} (e : M_Bytes_glyphWidth v0 g = some out) (c : Q (some (.int out)) (hp g)) : mw (ab_ext L xs) J_Bytes_glyphWidth [.int v0] (hp g) Q := by
  unfold M_Bytes_glyphWidth at e
  refine wp_p (j := J_Bytes_glyphWidth) 1 (pc' := 1) (lv' := [(0, .int v0)]) (st' := [.int v0]) rfl ?_
  refine x_if e (fun h1 e => ?_) (fun h1 e => ?_)
  · refine x_sw (cst := 33) (pc' := 132) (rest := []) h1 rfl rfl rfl ?_
    refine wp_p (j := J_Bytes_glyphWidth) 1 (pc' := 133) (lv' := [(0, .int v0)]) (st' := [.int 2]) rfl ?_
    have e := Option.some.inj e; subst e; exact wp_iret (ty := .int) rfl rfl rfl c
  refine x_if e (fun h2 e => ?_) (fun h2 e => ?_)
  · refine x_sw (cst := 39) (pc' := 132) (rest := []) h2 rfl rfl rfl ?_
    refine wp_p (j := J_Bytes_glyphWidth) 1 (pc' := 133) (lv' := [(0, .int v0)]) (st' := [.int 2]) rfl ?_
    have e := Option.some.inj e; subst e; exact wp_iret (ty := .int) rfl rfl rfl c
  refine x_if e (fun h3 e => ?_) (fun h3 e => ?_)
  · refine x_sw (cst := 44) (pc' := 132) (rest := []) h3 rfl rfl rfl ?_
    refine wp_p (j := J_Bytes_glyphWidth) 1 (pc' := 133) (lv' := [(0, .int v0)]) (st' := [.int 2]) rfl ?_
    have e := Option.some.inj e; subst e; exact wp_iret (ty := .int) rfl rfl rfl c
  refine x_if e (fun h4 e => ?_) (fun h4 e => ?_)
  · refine x_sw (cst := 46) (pc' := 132) (rest := []) h4 rfl rfl rfl ?_
    refine wp_p (j := J_Bytes_glyphWidth) 1 (pc' := 133) (lv' := [(0, .int v0)]) (st' := [.int 2]) rfl ?_
    have e := Option.some.inj e; subst e; exact wp_iret (ty := .int) rfl rfl rfl c
  refine x_if e (fun h5 e => ?_) (fun h5 e => ?_)
  · refine x_sw (cst := 58) (pc' := 132) (rest := []) h5 rfl rfl rfl ?_
    refine wp_p (j := J_Bytes_glyphWidth) 1 (pc' := 133) (lv' := [(0, .int v0)]) (st' := [.int 2]) rfl ?_
    have e := Option.some.inj e; subst e; exact wp_iret (ty := .int) rfl rfl rfl c
  refine x_if e (fun h6 e => ?_) (fun h6 e => ?_)
  · refine x_sw (cst := 59) (pc' := 132) (rest := []) h6 rfl rfl rfl ?_
    refine wp_p (j := J_Bytes_glyphWidth) 1 (pc' := 133) (lv' := [(0, .int v0)]) (st' := [.int 2]) rfl ?_
    have e := Option.some.inj e; subst e; exact wp_iret (ty := .int) rfl rfl rfl c
  refine x_if e (fun h7 e => ?_) (fun h7 e => ?_)
  · refine x_sw (cst := 64) (pc' := 134) (rest := []) h7 rfl rfl rfl ?_
    refine wp_p (j := J_Bytes_glyphWidth) 1 (pc' := 135) (lv' := [(0, .int v0)]) (st' := [.int 5]) rfl ?_
    have e := Option.some.inj e; subst e; exact wp_iret (ty := .int) rfl rfl rfl c
  refine x_if e (fun h8 e => ?_) (fun h8 e => ?_)
  · refine x_sw (cst := 77) (pc' := 134) (rest := []) h8 rfl rfl rfl ?_
    refine wp_p (j := J_Bytes_glyphWidth) 1 (pc' := 135) (lv' := [(0, .int v0)]) (st' := [.int 5]) rfl ?_
    have e := Option.some.inj e; subst e; exact wp_iret (ty := .int) rfl rfl rfl c
  refine x_if e (fun h9 e => ?_) (fun h9 e => ?_)
  · refine x_sw (cst := 87) (pc' := 134) (rest := []) h9 rfl rfl rfl ?_
    refine wp_p (j := J_Bytes_glyphWidth) 1 (pc' := 135) (lv' := [(0, .int v0)]) (st' := [.int 5]) rfl ?_
    have e := Option.some.inj e; subst e; exact wp_iret (ty := .int) rfl rfl rfl c
  refine x_if e (fun h10 e => ?_) (fun h10 e => ?_)
  · refine x_sw (cst := 105) (pc' := 132) (rest := []) h10 rfl rfl rfl ?_
    refine wp_p (j := J_Bytes_glyphWidth) 1 (pc' := 133) (lv' := [(0, .int v0)]) (st' := [.int 2]) rfl ?_
    have e := Option.some.inj e; subst e; exact wp_iret (ty := .int) rfl rfl rfl c
  refine x_if e (fun h11 e => ?_) (fun h11 e => ?_)
  · refine x_sw (cst := 106) (pc' := 132) (rest := []) h11 rfl rfl rfl ?_
    refine wp_p (j := J_Bytes_glyphWidth) 1 (pc' := 133) (lv' := [(0, .int v0)]) (st' := [.int 2]) rfl ?_
    have e := Option.some.inj e; subst e; exact wp_iret (ty := .int) rfl rfl rfl c
  refine x_if e (fun h12 e => ?_) (fun h12 e => ?_)
  · refine x_sw (cst := 108) (pc' := 132) (rest := []) h12 rfl rfl rfl ?_
    refine wp_p (j := J_Bytes_glyphWidth) 1 (pc' := 133) (lv' := [(0, .int v0)]) (st' := [.int 2]) rfl ?_
    have e := Option.some.inj e; subst e; exact wp_iret (ty := .int) rfl rfl rfl c
  refine x_if e (fun h13 e => ?_) (fun h13 e => ?_)
  · refine x_sw (cst := 109) (pc' := 134) (rest := []) h13 rfl rfl rfl ?_
    refine wp_p (j := J_Bytes_glyphWidth) 1 (pc' := 135) (lv' := [(0, .int v0)]) (st' := [.int 5]) rfl ?_
    have e := Option.some.inj e; subst e; exact wp_iret (ty := .int) rfl rfl rfl c
  refine x_if e (fun h14 e => ?_) (fun h14 e => ?_)
  · refine x_sw (cst := 119) (pc' := 134) (rest := []) h14 rfl rfl rfl ?_
    refine wp_p (j := J_Bytes_glyphWidth) 1 (pc' := 135) (lv' := [(0, .int v0)]) (st' := [.int 5]) rfl ?_
    have e := Option.some.inj e; subst e; exact wp_iret (ty := .int) rfl rfl rfl c
  refine x_if e (fun h15 e => ?_) (fun h15 e => ?_)
  · refine x_sw (cst := 124) (pc' := 132) (rest := []) h15 rfl rfl rfl ?_
    refine wp_p (j := J_Bytes_glyphWidth) 1 (pc' := 133) (lv' := [(0, .int v0)]) (st' := [.int 2]) rfl ?_
    have e := Option.some.inj e; subst e; exact wp_iret (ty := .int) rfl rfl rfl c
  refine wp_b (pc' := 136) (st' := []) rfl rfl ((lk_d (x := v0) (ps := #[(33, 131), (39, 131), (44, 131), (46, 131), (58, 131), (59, 131), (64, 133), (77, 133), (87, 133), (105, 131), (106, 131), (108, 131), (109, 133), (119, 133), (124, 131)]) rfl ⟨h1, h2, h3, h4, h5, h6, h7, h8, h9, h10, h11, h12, h13, h14, h15, trivial⟩).trans rfl) ?_
  refine wp_p (j := J_Bytes_glyphWidth) 1 (pc' := 137) (lv' := [(0, .int v0)]) (st' := [.int 4]) rfl ?_
  have e := Option.some.inj e; subst e; exact wp_iret (ty := .int) rfl rfl rfl c
noncomputable def M_Arrays_copyOf_1 (v0 : Nat) (v1 : Int32) (g : g_S) : Option (Nat × g_S) :=
  (aN g v0).bind fun z1 =>
  if v1 = z1 then
    none
  else
    c2 (nA g 0 v1) fun z2 g3 =>
    (aN g3 v0).bind fun z4 =>
    (cp g3 0 v0 0 z2 0 (mn z4 v1)).bind fun g5 =>
    some (z2, g5)
set_option maxRecDepth 20000 in
theorem d_Arrays_copyOf_1 {L : Nat} {xs : Nat → Int32} {Q : Option Value → ab_H → Prop} {v0 : Nat} {v1 : Int32} {g : g_S} {out : Nat × g_S} (e : M_Arrays_copyOf_1 v0 v1 g = some out) (c : Q (some (.ref out.1)) (hp out.2)) : mw (ab_ext L xs) J_Arrays_copyOf_1 [.ref v0, .int v1] (hp g) Q := by
  unfold M_Arrays_copyOf_1 at e
  refine wp_p (j := J_Arrays_copyOf_1) 2 (pc' := 2) (lv' := [(0, .ref v0), (1, .int v1)]) (st' := [.ref v0, .int v1]) rfl ?_
  refine x_aN e rfl rfl (fun z1 e => ?_)
  refine x_ne e rfl (fun e => ?_) (fun e => ?_)
  · refine wp_p (j := J_Arrays_copyOf_1) 1 (pc' := 7) (lv' := [(0, .ref v0), (1, .int v1)]) (st' := [.ref v0]) rfl ?_
    cases e
  · refine wp_p (j := J_Arrays_copyOf_1) 1 (pc' := 15) (lv' := [(0, .ref v0), (1, .int v1)]) (st' := [.int v1]) rfl ?_
    refine x_nA e rfl rfl rfl (fun z2 g3 e => ?_)
    refine wp_p (j := J_Arrays_copyOf_1) 6 (pc' := 23) (lv' := [(2, .ref z2), (0, .ref v0), (1, .int v1)]) (st' := [.ref v0, .int 0, .ref z2, .int 0, .ref v0]) rfl ?_
    refine x_aN e rfl rfl (fun z4 e => ?_)
    refine wp_p (j := J_Arrays_copyOf_1) 1 (pc' := 25) (lv' := [(2, .ref z2), (0, .ref v0), (1, .int v1)]) (st' := [.int v1, .int z4, .int 0, .ref z2, .int 0, .ref v0]) rfl ?_
    refine x_mn rfl rfl ?_
    refine x_cp e rfl (.inl rfl) rfl (fun g5 e => ?_)
    refine wp_p (j := J_Arrays_copyOf_1) 1 (pc' := 32) (lv' := [(2, .ref z2), (0, .ref v0), (1, .int v1)]) (st' := [.ref z2]) rfl ?_
    have e := Option.some.inj e; subst e; exact wp_r rfl rfl rfl rfl rfl c
noncomputable def k_Layout_addWord_40 (v0 : Nat) (v1 : Int32) (v2 : Int32) (v3 : Int32) (v4 : Int32) (v5 : Int32) (g : g_S) : Option g_S :=
  (rQ g 105 v0 5).bind fun z1 =>
  (sI g z1 v5 v1).bind fun g2 =>
  (rQ g2 105 v0 5).bind fun z3 =>
  (sI g2 z3 (v5 + 1) v2).bind fun g4 =>
  (rQ g4 105 v0 5).bind fun z5 =>
  (sI g4 z5 (v5 + 2) v3).bind fun g6 =>
  (rQ g6 105 v0 5).bind fun z7 =>
  (sI g6 z7 (v5 + 5) v4).bind fun g8 =>
  (rI g8 105 v0 6).bind fun z9 =>
  (wI g8 105 v0 6 (z9 + 1)).bind fun g10 =>
  some g10
set_option maxRecDepth 20000 in
theorem x_Layout_addWord_40 {L : Nat} {xs : Nat → Int32} {Q : Option Value → ab_H → Prop} {v0 : Nat} {v1 : Int32} {v2 : Int32} {v3 : Int32} {v4 : Int32} {v5 : Int32} {g : g_S} {out : g_S} (e : k_Layout_addWord_40 v0 v1 v2 v3 v4 v5 g = some out) (c : Q none (hp out)) : wp (ab_ext L xs) J_Layout_addWord 40 [(0, .ref v0), (1, .int v1), (2, .int v2), (3, .int v3), (4, .int v4), (5, .int v5)] [] (hp g) Q := by
  unfold k_Layout_addWord_40 at e
  refine wp_p (j := J_Layout_addWord) 1 (pc' := 41) (lv' := [(0, .ref v0), (1, .int v1), (2, .int v2), (3, .int v3), (4, .int v4), (5, .int v5)]) (st' := [.ref v0]) rfl ?_
  refine x_gQ e rfl rfl fd_5_5 rfl (fun z1 e => ?_)
  refine wp_p (j := J_Layout_addWord) 2 (pc' := 47) (lv' := [(0, .ref v0), (1, .int v1), (2, .int v2), (3, .int v3), (4, .int v4), (5, .int v5)]) (st' := [.int v1, .int v5, .ref z1]) rfl ?_
  refine x_sI e rfl rfl (fun g2 e => ?_)
  refine wp_p (j := J_Layout_addWord) 1 (pc' := 49) (lv' := [(0, .ref v0), (1, .int v1), (2, .int v2), (3, .int v3), (4, .int v4), (5, .int v5)]) (st' := [.ref v0]) rfl ?_
  refine x_gQ e rfl rfl fd_5_5 rfl (fun z3 e => ?_)
  refine wp_p (j := J_Layout_addWord) 4 (pc' := 57) (lv' := [(0, .ref v0), (1, .int v1), (2, .int v2), (3, .int v3), (4, .int v4), (5, .int v5)]) (st' := [.int v2, .int (v5 + 1), .ref z3]) rfl ?_
  refine x_sI e rfl rfl (fun g4 e => ?_)
  refine wp_p (j := J_Layout_addWord) 1 (pc' := 59) (lv' := [(0, .ref v0), (1, .int v1), (2, .int v2), (3, .int v3), (4, .int v4), (5, .int v5)]) (st' := [.ref v0]) rfl ?_
  refine x_gQ e rfl rfl fd_5_5 rfl (fun z5 e => ?_)
  refine wp_p (j := J_Layout_addWord) 4 (pc' := 67) (lv' := [(0, .ref v0), (1, .int v1), (2, .int v2), (3, .int v3), (4, .int v4), (5, .int v5)]) (st' := [.int v3, .int (v5 + 2), .ref z5]) rfl ?_
  refine x_sI e rfl rfl (fun g6 e => ?_)
  refine wp_p (j := J_Layout_addWord) 1 (pc' := 69) (lv' := [(0, .ref v0), (1, .int v1), (2, .int v2), (3, .int v3), (4, .int v4), (5, .int v5)]) (st' := [.ref v0]) rfl ?_
  refine x_gQ e rfl rfl fd_5_5 rfl (fun z7 e => ?_)
  refine wp_p (j := J_Layout_addWord) 4 (pc' := 78) (lv' := [(0, .ref v0), (1, .int v1), (2, .int v2), (3, .int v3), (4, .int v4), (5, .int v5)]) (st' := [.int v4, .int (v5 + 5), .ref z7]) rfl ?_
  refine x_sI e rfl rfl (fun g8 e => ?_)
  refine wp_p (j := J_Layout_addWord) 2 (pc' := 81) (lv' := [(0, .ref v0), (1, .int v1), (2, .int v2), (3, .int v3), (4, .int v4), (5, .int v5)]) (st' := [.ref v0, .ref v0]) rfl ?_
  refine x_gI e rfl rfl fd_5_6 rfl (fun z9 e => ?_)
  refine wp_p (j := J_Layout_addWord) 2 (pc' := 86) (lv' := [(0, .ref v0), (1, .int v1), (2, .int v2), (3, .int v3), (4, .int v4), (5, .int v5)]) (st' := [.int (z9 + 1), .ref v0]) rfl ?_
  refine x_pI e rfl rfl fw_5_6 rfl (fun g10 e => ?_)
  have e := Option.some.inj e; subst e; exact wp_vret rfl rfl c
noncomputable def M_Layout_addWord (v0 : Nat) (v1 : Int32) (v2 : Int32) (v3 : Int32) (v4 : Int32) (g : g_S) : Option g_S :=
  (rI g 105 v0 6).bind fun z1 =>
  (rQ g 105 v0 5).bind fun z2 =>
  (aN g z2).bind fun z3 =>
  if z3 < ((z1 * 6) + 6) then
    (rQ g 105 v0 5).bind fun z4 =>
    (rQ g 105 v0 5).bind fun z5 =>
    (aN g z5).bind fun z6 =>
    c2 (M_Arrays_copyOf_1 z4 (z6 * 2) g) fun z7 g8 =>
    (wR g8 105 v0 5 (some z7)).bind fun g9 =>
    k_Layout_addWord_40 v0 v1 v2 v3 v4 (z1 * 6) g9
  else
    k_Layout_addWord_40 v0 v1 v2 v3 v4 (z1 * 6) g
set_option maxRecDepth 20000 in
theorem d_Layout_addWord {L : Nat} {xs : Nat → Int32} {Q : Option Value → ab_H → Prop} {v0 : Nat} {v1 : Int32} {v2 : Int32} {v3 : Int32} {v4 : Int32} {g : g_S} {out : g_S} (e : M_Layout_addWord v0 v1 v2 v3 v4 g = some out) (c : Q none (hp out)) : mw (ab_ext L xs) J_Layout_addWord [.ref v0, .int v1, .int v2, .int v3, .int v4] (hp g) Q := by
  unfold M_Layout_addWord at e
  refine wp_p (j := J_Layout_addWord) 1 (pc' := 1) (lv' := [(0, .ref v0), (1, .int v1), (2, .int v2), (3, .int v3), (4, .int v4)]) (st' := [.ref v0]) rfl ?_
  refine x_gI e rfl rfl fd_5_6 rfl (fun z1 e => ?_)
  refine wp_p (j := J_Layout_addWord) 7 (pc' := 15) (lv' := [(5, .int (z1 * 6)), (0, .ref v0), (1, .int v1), (2, .int v2), (3, .int v3), (4, .int v4)]) (st' := [.ref v0, .int ((z1 * 6) + 6)]) rfl ?_
  refine x_gQ e rfl rfl fd_5_5 rfl (fun z2 e => ?_)
  refine x_aN e rfl rfl (fun z3 e => ?_)
  refine x_le e rfl (fun e => ?_) (fun e => ?_)
  · refine wp_p (j := J_Layout_addWord) 2 (pc' := 24) (lv' := [(5, .int (z1 * 6)), (0, .ref v0), (1, .int v1), (2, .int v2), (3, .int v3), (4, .int v4)]) (st' := [.ref v0, .ref v0]) rfl ?_
    refine x_gQ e rfl rfl fd_5_5 rfl (fun z4 e => ?_)
    refine wp_p (j := J_Layout_addWord) 1 (pc' := 28) (lv' := [(5, .int (z1 * 6)), (0, .ref v0), (1, .int v1), (2, .int v2), (3, .int v3), (4, .int v4)]) (st' := [.ref v0, .ref z4, .ref v0]) rfl ?_
    refine x_gQ e rfl rfl fd_5_5 rfl (fun z5 e => ?_)
    refine x_aN e rfl rfl (fun z6 e => ?_)
    refine wp_p (j := J_Layout_addWord) 2 (pc' := 34) (lv' := [(5, .int (z1 * 6)), (0, .ref v0), (1, .int v1), (2, .int v2), (3, .int v3), (4, .int v4)]) (st' := [.int (z6 * 2), .ref z4, .ref v0]) rfl ?_
    refine x_cs2 (As := [.ref z4, .int (z6 * 2)]) (rest := [.ref v0]) Value.ref e rfl rfl rfl rfl rfl (fun h => d_Arrays_copyOf_1 h ⟨rfl, rfl⟩) (fun z7 g8 e => ?_)
    refine x_pR (r := (some z7)) e rfl rfl fd_5_5 rfl (fun g9 e => ?_)
    exact wp_lv (lv' := [(0, .ref v0), (1, .int v1), (2, .int v2), (3, .int v3), (4, .int v4), (5, .int (z1 * 6))]) rfl ⟨rfl, rfl, rfl, rfl, rfl, rfl, trivial⟩ (x_Layout_addWord_40 e c)
  · exact wp_lv (lv' := [(0, .ref v0), (1, .int v1), (2, .int v2), (3, .int v3), (4, .int v4), (5, .int (z1 * 6))]) rfl ⟨rfl, rfl, rfl, rfl, rfl, rfl, trivial⟩ (x_Layout_addWord_40 e c)
def cL_Layout_listWords_27 (L : Nat) (xs : Nat → Int32) (Q : Option Value → ab_H → Prop) (v0 : Nat) (v1 : Int32) (v2 : Nat) (v3 : Nat) (v4 : Int32) (g : g_S) (out : (Int32 × Int32) ⊕ (Int32 × Int32)) : Prop := match out with
  | .inl s => wp (ab_ext L xs) J_Layout_listWords 27 [(0, .ref v0), (1, .int v1), (2, .ref v2), (3, .ref v3), (4, .int v4), (5, .int s.1), (6, .int s.2)] [] (hp g) Q
  | .inr s => wp (ab_ext L xs) J_Layout_listWords 70 [(0, .ref v0), (1, .int v1), (2, .ref v2), (3, .ref v3), (4, .int v4), (5, .int s.1), (6, .int s.2)] [] (hp g) Q
noncomputable def b_Layout_listWords_27 (v0 : Nat) (v1 : Int32) (v2 : Nat) (v3 : Nat) (v4 : Int32) (v5 : Int32) (v6 : Int32) (g : g_S) : Option ((Int32 × Int32) ⊕ (Int32 × Int32)) :=
  (rI g 104 v2 2).bind fun z1 =>
  if v5 < z1 then
    (rQ g 104 v2 1).bind fun z2 =>
    (aI g 1 z2 v5).bind fun z3 =>
    (M_Bytes_isBlank z3 g).bind fun z4 =>
    if z4 = 0 then
      (rQ g 104 v2 1).bind fun z5 =>
      (aI g 1 z5 v5).bind fun z6 =>
      (M_Bytes_glyphWidth z6 g).bind fun z7 =>
      some (.inl (v5 + 1, v6 + z7))
    else
      some (.inr (v5, v6))
  else
    some (.inr (v5, v6))
set_option maxRecDepth 20000 in
theorem y_Layout_listWords_27 {L : Nat} {xs : Nat → Int32} {Q : Option Value → ab_H → Prop} {v0 : Nat} {v1 : Int32} {v2 : Nat} {v3 : Nat} {v4 : Int32} {v5 : Int32} {v6 : Int32} {g : g_S} {out : (Int32 × Int32) ⊕ (Int32 × Int32)} (e : b_Layout_listWords_27 v0 v1 v2 v3 v4 v5 v6 g = some out) (c : cL_Layout_listWords_27 L xs Q v0 v1 v2 v3 v4 g out) : wp (ab_ext L xs) J_Layout_listWords 27 [(0, .ref v0), (1, .int v1), (2, .ref v2), (3, .ref v3), (4, .int v4), (5, .int v5), (6, .int v6)] [] (hp g) Q := by
  unfold b_Layout_listWords_27 at e
  refine wp_p (j := J_Layout_listWords) 2 (pc' := 30) (lv' := [(0, .ref v0), (1, .int v1), (2, .ref v2), (3, .ref v3), (4, .int v4), (5, .int v5), (6, .int v6)]) (st' := [.ref v2, .int v5]) rfl ?_
  refine x_gI e rfl rfl fd_4_2 rfl (fun z1 e => ?_)
  refine x_ge e rfl (fun e => ?_) (fun e => ?_)
  · refine wp_p (j := J_Layout_listWords) 1 (pc' := 37) (lv' := [(0, .ref v0), (1, .int v1), (2, .ref v2), (3, .ref v3), (4, .int v4), (5, .int v5), (6, .int v6)]) (st' := [.ref v2]) rfl ?_
    refine x_gQ e rfl rfl fd_4_1 rfl (fun z2 e => ?_)
    refine wp_p (j := J_Layout_listWords) 1 (pc' := 42) (lv' := [(0, .ref v0), (1, .int v1), (2, .ref v2), (3, .ref v3), (4, .int v4), (5, .int v5), (6, .int v6)]) (st' := [.int v5, .ref z2]) rfl ?_
    refine x_aB e rfl (.inl rfl) rfl (fun z3 e => ?_)
    refine x_cs1 (As := [.int z3]) (rest := []) Value.int e rfl rfl rfl rfl rfl (fun h => d_Bytes_isBlank h ⟨rfl, rfl⟩) (fun z4 e => ?_)
    refine z_ne e rfl (fun e => ?_) (fun e => ?_)
    · refine wp_p (j := J_Layout_listWords) 2 (pc' := 52) (lv' := [(0, .ref v0), (1, .int v1), (2, .ref v2), (3, .ref v3), (4, .int v4), (5, .int v5), (6, .int v6)]) (st' := [.ref v2, .int v6]) rfl ?_
      refine x_gQ e rfl rfl fd_4_1 rfl (fun z5 e => ?_)
      refine wp_p (j := J_Layout_listWords) 1 (pc' := 57) (lv' := [(0, .ref v0), (1, .int v1), (2, .ref v2), (3, .ref v3), (4, .int v4), (5, .int v5), (6, .int v6)]) (st' := [.int v5, .ref z5, .int v6]) rfl ?_
      refine x_aB e rfl (.inl rfl) rfl (fun z6 e => ?_)
      refine x_cs1 (As := [.int z6]) (rest := [.int v6]) Value.int e rfl rfl rfl rfl rfl (fun h => d_Bytes_glyphWidth h ⟨rfl, rfl⟩) (fun z7 e => ?_)
      refine wp_p (j := J_Layout_listWords) 4 (pc' := 27) (lv' := [(5, .int (v5 + 1)), (6, .int (v6 + z7)), (0, .ref v0), (1, .int v1), (2, .ref v2), (3, .ref v3), (4, .int v4)]) (st' := []) rfl ?_
      have e := Option.some.inj e; subst e; exact wp_lv (lv' := [(0, .ref v0), (1, .int v1), (2, .ref v2), (3, .ref v3), (4, .int v4), (5, .int (v5 + 1)), (6, .int (v6 + z7))]) rfl ⟨rfl, rfl, rfl, rfl, rfl, rfl, rfl, trivial⟩ c
    · have e := Option.some.inj e; subst e; exact wp_lv (lv' := [(0, .ref v0), (1, .int v1), (2, .ref v2), (3, .ref v3), (4, .int v4), (5, .int v5), (6, .int v6)]) rfl ⟨rfl, rfl, rfl, rfl, rfl, rfl, rfl, trivial⟩ c
  · have e := Option.some.inj e; subst e; exact wp_lv (lv' := [(0, .ref v0), (1, .int v1), (2, .ref v2), (3, .ref v3), (4, .int v4), (5, .int v5), (6, .int v6)]) rfl ⟨rfl, rfl, rfl, rfl, rfl, rfl, rfl, trivial⟩ c
noncomputable def L_Layout_listWords_27 (v0 : Nat) (v1 : Int32) (v2 : Nat) (v3 : Nat) (v4 : Int32) (v5 : Int32) (v6 : Int32) (g : g_S) : Option (Int32 × Int32) := it (fun s : Int32 × Int32 => b_Layout_listWords_27 v0 v1 v2 v3 v4 s.1 s.2 g) (v5, v6)
theorem l_Layout_listWords_27 {L : Nat} {xs : Nat → Int32} {Q : Option Value → ab_H → Prop} {v0 : Nat} {v1 : Int32} {v2 : Nat} {v3 : Nat} {v4 : Int32} {v5 : Int32} {v6 : Int32} {g : g_S} {r : Int32 × Int32} (e : L_Layout_listWords_27 v0 v1 v2 v3 v4 v5 v6 g = some r) (c : cL_Layout_listWords_27 L xs Q v0 v1 v2 v3 v4 g (.inr r)) : wp (ab_ext L xs) J_Layout_listWords 27 [(0, .ref v0), (1, .int v1), (2, .ref v2), (3, .ref v3), (4, .int v4), (5, .int v5), (6, .int v6)] [] (hp g) Q :=
  it_wp (P := fun s : Int32 × Int32 => wp (ab_ext L xs) J_Layout_listWords 27 [(0, .ref v0), (1, .int v1), (2, .ref v2), (3, .ref v3), (4, .int v4), (5, .int s.1), (6, .int s.2)] [] (hp g) Q) (E := fun r => cL_Layout_listWords_27 L xs Q v0 v1 v2 v3 v4 g (.inr r)) (fun s out e c => y_Layout_listWords_27 e (by cases out <;> exact c)) e c
theorem L_Layout_listWords_27_eq (v0 : Nat) (v1 : Int32) (v2 : Nat) (v3 : Nat) (v4 : Int32) (v5 : Int32) (v6 : Int32) (g : g_S) : L_Layout_listWords_27 v0 v1 v2 v3 v4 v5 v6 g = itc (b_Layout_listWords_27 v0 v1 v2 v3 v4 v5 v6 g) (fun s => L_Layout_listWords_27 v0 v1 v2 v3 v4 s.1 s.2 g) := it_eq2 (fun s : Int32 × Int32 => b_Layout_listWords_27 v0 v1 v2 v3 v4 s.1 s.2 g) (v5, v6)
def cL_Layout_listWords_11 (L : Nat) (xs : Nat → Int32) (Q : Option Value → ab_H → Prop) (v0 : Nat) (v1 : Int32) (v2 : Nat) (v3 : Nat) (out : (Int32 × g_S) ⊕ (g_S)) : Prop := match out with
  | .inl s => wp (ab_ext L xs) J_Layout_listWords 11 [(0, .ref v0), (1, .int v1), (2, .ref v2), (3, .ref v3), (4, .int s.1)] [] (hp s.2) Q
  | .inr s => wp (ab_ext L xs) J_Layout_listWords 105 [(0, .ref v0), (3, .ref v3)] [] (hp s) Q
noncomputable def k_Layout_listWords_96 (v0 : Nat) (v1 : Int32) (v2 : Nat) (v3 : Nat) (v5 : Int32) (g : g_S) : Option ((Int32 × g_S) ⊕ (g_S)) :=
  some (.inl (v5 + 1, g))
set_option maxRecDepth 20000 in
theorem x_Layout_listWords_96 {L : Nat} {xs : Nat → Int32} {Q : Option Value → ab_H → Prop} {v0 : Nat} {v1 : Int32} {v2 : Nat} {v3 : Nat} {v5 : Int32} {g : g_S} {out : (Int32 × g_S) ⊕ (g_S)} (e : k_Layout_listWords_96 v0 v1 v2 v3 v5 g = some out) (c : cL_Layout_listWords_11 L xs Q v0 v1 v2 v3 out) : wp (ab_ext L xs) J_Layout_listWords 96 [(0, .ref v0), (1, .int v1), (2, .ref v2), (3, .ref v3), (5, .int v5)] [] (hp g) Q := by
  unfold k_Layout_listWords_96 at e
  refine wp_p (j := J_Layout_listWords) 5 (pc' := 11) (lv' := [(4, .int (v5 + 1)), (0, .ref v0), (1, .int v1), (2, .ref v2), (3, .ref v3), (5, .int v5)]) (st' := []) rfl ?_
  have e := Option.some.inj e; subst e; exact wp_lv (lv' := [(0, .ref v0), (1, .int v1), (2, .ref v2), (3, .ref v3), (4, .int (v5 + 1))]) rfl ⟨rfl, rfl, rfl, rfl, rfl, trivial⟩ c
noncomputable def k_Layout_listWords_70 (v0 : Nat) (v1 : Int32) (v2 : Nat) (v3 : Nat) (v4 : Int32) (v5 : Int32) (v6 : Int32) (g : g_S) : Option ((Int32 × g_S) ⊕ (g_S)) :=
  if v4 < v5 then
    (rI g 103 v3 11).bind fun z1 =>
    (vc g 105 v0 (M_Layout_addWord v0 v1 v4 (v5 - v4) (v6 * z1) g)).bind fun g2 =>
    k_Layout_listWords_96 v0 v1 v2 v3 v5 g2
  else
    k_Layout_listWords_96 v0 v1 v2 v3 v5 g
set_option maxRecDepth 20000 in
theorem x_Layout_listWords_70 {L : Nat} {xs : Nat → Int32} {Q : Option Value → ab_H → Prop} {v0 : Nat} {v1 : Int32} {v2 : Nat} {v3 : Nat} {v4 : Int32} {v5 : Int32} {v6 : Int32} {g : g_S} {out : (Int32 × g_S) ⊕ (g_S)} (e : k_Layout_listWords_70 v0 v1 v2 v3 v4 v5 v6 g = some out) (c : cL_Layout_listWords_11 L xs Q v0 v1 v2 v3 out) : wp (ab_ext L xs) J_Layout_listWords 70 [(0, .ref v0), (1, .int v1), (2, .ref v2), (3, .ref v3), (4, .int v4), (5, .int v5), (6, .int v6)] [] (hp g) Q := by
  unfold k_Layout_listWords_70 at e
  refine wp_p (j := J_Layout_listWords) 2 (pc' := 74) (lv' := [(0, .ref v0), (1, .int v1), (2, .ref v2), (3, .ref v3), (4, .int v4), (5, .int v5), (6, .int v6)]) (st' := [.int v4, .int v5]) rfl ?_
  refine x_le e rfl (fun e => ?_) (fun e => ?_)
  · refine wp_p (j := J_Layout_listWords) 8 (pc' := 89) (lv' := [(0, .ref v0), (1, .int v1), (2, .ref v2), (3, .ref v3), (4, .int v4), (5, .int v5), (6, .int v6)]) (st' := [.ref v3, .int v6, .int (v5 - v4), .int v4, .int v1, .ref v0]) rfl ?_
    refine x_gI e rfl rfl fd_3_11 rfl (fun z1 e => ?_)
    refine wp_p (j := J_Layout_listWords) 1 (pc' := 93) (lv' := [(0, .ref v0), (1, .int v1), (2, .ref v2), (3, .ref v3), (4, .int v4), (5, .int v5), (6, .int v6)]) (st' := [.int (v6 * z1), .int (v5 - v4), .int v4, .int v1, .ref v0]) rfl ?_
    refine x_cv0 (As := [.int v1, .int v4, .int (v5 - v4), .int (v6 * z1)]) (rest := []) e rfl rfl rfl rfl rfl rfl (fun h => d_Layout_addWord h ⟨rfl, rfl⟩) (fun g2 e => ?_)
    exact wp_lv (lv' := [(0, .ref v0), (1, .int v1), (2, .ref v2), (3, .ref v3), (5, .int v5)]) rfl ⟨rfl, rfl, rfl, rfl, rfl, trivial⟩ (x_Layout_listWords_96 e c)
  · exact wp_lv (lv' := [(0, .ref v0), (1, .int v1), (2, .ref v2), (3, .ref v3), (5, .int v5)]) rfl ⟨rfl, rfl, rfl, rfl, rfl, trivial⟩ (x_Layout_listWords_96 e c)
noncomputable def b_Layout_listWords_11 (v0 : Nat) (v1 : Int32) (v2 : Nat) (v3 : Nat) (v4 : Int32) (g : g_S) : Option ((Int32 × g_S) ⊕ (g_S)) :=
  (rI g 104 v2 2).bind fun z1 =>
  if v4 < z1 then
    (L_Layout_listWords_27 v0 v1 v2 v3 v4 v4 0 g).bind <| u2 fun z4 z5 =>
    k_Layout_listWords_70 v0 v1 v2 v3 v4 z4 z5 g
  else
    some (.inr g)
set_option maxRecDepth 20000 in
theorem y_Layout_listWords_11 {L : Nat} {xs : Nat → Int32} {Q : Option Value → ab_H → Prop} {v0 : Nat} {v1 : Int32} {v2 : Nat} {v3 : Nat} {v4 : Int32} {g : g_S} {out : (Int32 × g_S) ⊕ (g_S)} (e : b_Layout_listWords_11 v0 v1 v2 v3 v4 g = some out) (c : cL_Layout_listWords_11 L xs Q v0 v1 v2 v3 out) : wp (ab_ext L xs) J_Layout_listWords 11 [(0, .ref v0), (1, .int v1), (2, .ref v2), (3, .ref v3), (4, .int v4)] [] (hp g) Q := by
  unfold b_Layout_listWords_11 at e
  refine wp_p (j := J_Layout_listWords) 2 (pc' := 14) (lv' := [(0, .ref v0), (1, .int v1), (2, .ref v2), (3, .ref v3), (4, .int v4)]) (st' := [.ref v2, .int v4]) rfl ?_
  refine x_gI e rfl rfl fd_4_2 rfl (fun z1 e => ?_)
  refine x_ge e rfl (fun e => ?_) (fun e => ?_)
  · refine wp_p (j := J_Layout_listWords) 4 (pc' := 27) (lv' := [(6, .int 0), (5, .int v4), (0, .ref v0), (1, .int v1), (2, .ref v2), (3, .ref v3), (4, .int v4)]) (st' := []) rfl ?_
    obtain ⟨s2, h3, e⟩ := bd e
    refine wp_lv (lv' := [(0, .ref v0), (1, .int v1), (2, .ref v2), (3, .ref v3), (4, .int v4), (5, .int v4), (6, .int 0)]) rfl ⟨rfl, rfl, rfl, rfl, rfl, rfl, rfl, trivial⟩ ?_
    refine l_Layout_listWords_27 h3 ?_
    obtain ⟨z4, z5⟩ := s2
    replace e := u2_e e
    show wp (ab_ext L xs) J_Layout_listWords 70 [(0, .ref v0), (1, .int v1), (2, .ref v2), (3, .ref v3), (4, .int v4), (5, .int z4), (6, .int z5)] [] (hp g) Q
    exact wp_lv (lv' := [(0, .ref v0), (1, .int v1), (2, .ref v2), (3, .ref v3), (4, .int v4), (5, .int z4), (6, .int z5)]) rfl ⟨rfl, rfl, rfl, rfl, rfl, rfl, rfl, trivial⟩ (x_Layout_listWords_70 e c)
  · have e := Option.some.inj e; subst e; exact wp_lv (lv' := [(0, .ref v0), (3, .ref v3)]) rfl ⟨rfl, rfl, trivial⟩ c
noncomputable def L_Layout_listWords_11 (v0 : Nat) (v1 : Int32) (v2 : Nat) (v3 : Nat) (v4 : Int32) (g : g_S) : Option (g_S) := it (fun s : Int32 × g_S => b_Layout_listWords_11 v0 v1 v2 v3 s.1 s.2) (v4, g)
theorem l_Layout_listWords_11 {L : Nat} {xs : Nat → Int32} {Q : Option Value → ab_H → Prop} {v0 : Nat} {v1 : Int32} {v2 : Nat} {v3 : Nat} {v4 : Int32} {g : g_S} {r : g_S} (e : L_Layout_listWords_11 v0 v1 v2 v3 v4 g = some r) (c : cL_Layout_listWords_11 L xs Q v0 v1 v2 v3 (.inr r)) : wp (ab_ext L xs) J_Layout_listWords 11 [(0, .ref v0), (1, .int v1), (2, .ref v2), (3, .ref v3), (4, .int v4)] [] (hp g) Q :=
  it_wp (P := fun s : Int32 × g_S => wp (ab_ext L xs) J_Layout_listWords 11 [(0, .ref v0), (1, .int v1), (2, .ref v2), (3, .ref v3), (4, .int s.1)] [] (hp s.2) Q) (E := fun r => cL_Layout_listWords_11 L xs Q v0 v1 v2 v3 (.inr r)) (fun s out e c => y_Layout_listWords_11 e (by cases out <;> exact c)) e c
theorem L_Layout_listWords_11_eq (v0 : Nat) (v1 : Int32) (v2 : Nat) (v3 : Nat) (v4 : Int32) (g : g_S) : L_Layout_listWords_11 v0 v1 v2 v3 v4 g = itc (b_Layout_listWords_11 v0 v1 v2 v3 v4 g) (fun s => L_Layout_listWords_11 v0 v1 v2 v3 s.1 s.2) := it_eq2 (fun s : Int32 × g_S => b_Layout_listWords_11 v0 v1 v2 v3 s.1 s.2) (v4, g)
noncomputable def M_Layout_listWords (v0 : Nat) (v1 : Int32) (v2 : Nat) (v3 : Nat) (g : g_S) : Option g_S :=
  (rI g 105 v0 6).bind fun z1 =>
  (wI g 103 v3 18 z1).bind fun g2 =>
  (L_Layout_listWords_11 v0 v1 v2 v3 0 g2).bind <| fun g5 =>
  (rI g5 105 v0 6).bind fun z6 =>
  (rI g5 103 v3 18).bind fun z7 =>
  (wI g5 103 v3 19 (z6 - z7)).bind fun g8 =>
  some g8
set_option maxRecDepth 20000 in
theorem d_Layout_listWords {L : Nat} {xs : Nat → Int32} {Q : Option Value → ab_H → Prop} {v0 : Nat} {v1 : Int32} {v2 : Nat} {v3 : Nat} {g : g_S} {out : g_S} (e : M_Layout_listWords v0 v1 v2 v3 g = some out) (c : Q none (hp out)) : mw (ab_ext L xs) J_Layout_listWords [.ref v0, .int v1, .ref v2, .ref v3] (hp g) Q := by
  unfold M_Layout_listWords at e
  refine wp_p (j := J_Layout_listWords) 2 (pc' := 2) (lv' := [(0, .ref v0), (1, .int v1), (2, .ref v2), (3, .ref v3)]) (st' := [.ref v0, .ref v3]) rfl ?_
  refine x_gI e rfl rfl fd_5_6 rfl (fun z1 e => ?_)
  refine x_pI e rfl rfl fw_3_18 rfl (fun g2 e => ?_)
  refine wp_p (j := J_Layout_listWords) 2 (pc' := 11) (lv' := [(4, .int 0), (0, .ref v0), (1, .int v1), (2, .ref v2), (3, .ref v3)]) (st' := []) rfl ?_
  obtain ⟨g5, h4, e⟩ := bd e
  refine wp_lv (lv' := [(0, .ref v0), (1, .int v1), (2, .ref v2), (3, .ref v3), (4, .int 0)]) rfl ⟨rfl, rfl, rfl, rfl, rfl, trivial⟩ ?_
  refine l_Layout_listWords_11 h4 ?_
  show wp (ab_ext L xs) J_Layout_listWords 105 [(0, .ref v0), (3, .ref v3)] [] (hp g5) Q
  refine wp_p (j := J_Layout_listWords) 2 (pc' := 107) (lv' := [(0, .ref v0), (3, .ref v3)]) (st' := [.ref v0, .ref v3]) rfl ?_
  refine x_gI e rfl rfl fd_5_6 rfl (fun z6 e => ?_)
  refine wp_p (j := J_Layout_listWords) 1 (pc' := 111) (lv' := [(0, .ref v0), (3, .ref v3)]) (st' := [.ref v3, .int z6, .ref v3]) rfl ?_
  refine x_gI e rfl rfl fd_3_18 rfl (fun z7 e => ?_)
  refine wp_p (j := J_Layout_listWords) 1 (pc' := 115) (lv' := [(0, .ref v0), (3, .ref v3)]) (st' := [.int (z6 - z7), .ref v3]) rfl ?_
  refine x_pI e rfl rfl fw_3_19 rfl (fun g8 e => ?_)
  have e := Option.some.inj e; subst e; exact wp_vret rfl rfl c
noncomputable def M_Box_innerWidth (v0 : Nat) (g : g_S) : Option Int32 :=
  (rI g 103 v0 4).bind fun z1 =>
  (rI g 103 v0 8).bind fun z2 =>
  some (mx 0 (z1 - (2 * z2)))
set_option maxRecDepth 20000 in
theorem d_Box_innerWidth {L : Nat} {xs : Nat → Int32} {Q : Option Value → ab_H → Prop} {v0 : Nat} {g : g_S} {out : Int32} (e : M_Box_innerWidth v0 g = some out) (c : Q (some (.int out)) (hp g)) : mw (ab_ext L xs) J_Box_innerWidth [.ref v0] (hp g) Q := by
  unfold M_Box_innerWidth at e
  refine wp_p (j := J_Box_innerWidth) 2 (pc' := 2) (lv' := [(0, .ref v0)]) (st' := [.ref v0, .int 0]) rfl ?_
  refine x_gI e rfl rfl fd_3_4 rfl (fun z1 e => ?_)
  refine wp_p (j := J_Box_innerWidth) 2 (pc' := 7) (lv' := [(0, .ref v0)]) (st' := [.ref v0, .int 2, .int z1, .int 0]) rfl ?_
  refine x_gI e rfl rfl fd_3_8 rfl (fun z2 e => ?_)
  refine wp_p (j := J_Box_innerWidth) 2 (pc' := 12) (lv' := [(0, .ref v0)]) (st' := [.int (z1 - (2 * z2)), .int 0]) rfl ?_
  refine x_mx rfl rfl ?_
  have e := Option.some.inj e; subst e; exact wp_iret (ty := .int) rfl rfl rfl c
noncomputable def k_Layout_widthTold_49 (v3 : Int32) (w0 : Int32) (g : g_S) : Option Int32 :=
  if 1000 < v3 then
    (dv (w0 * (v3 - 1000)) 100).bind fun z1 =>
    some z1
  else
    some v3
set_option maxRecDepth 20000 in
theorem x_Layout_widthTold_49 {L : Nat} {xs : Nat → Int32} {Q : Option Value → ab_H → Prop} {v3 : Int32} {w0 : Int32} {g : g_S} {out : Int32} (e : k_Layout_widthTold_49 v3 w0 g = some out) (c : Q (some (.int out)) (hp g)) : wp (ab_ext L xs) J_Layout_widthTold 49 [(3, .int v3)] [.int w0] (hp g) Q := by
  unfold k_Layout_widthTold_49 at e
  refine wp_p (j := J_Layout_widthTold) 3 (pc' := 55) (lv' := [(5, .int w0), (3, .int v3)]) (st' := [.int 1000, .int v3]) rfl ?_
  refine x_le e rfl (fun e => ?_) (fun e => ?_)
  · refine wp_p (j := J_Layout_widthTold) 6 (pc' := 68) (lv' := [(5, .int w0), (3, .int v3)]) (st' := [.int 100, .int (w0 * (v3 - 1000))]) rfl ?_
    refine x_dv e rfl (fun z1 e => ?_)
    refine wp_p (j := J_Layout_widthTold) 1 (pc' := 73) (lv' := [(5, .int w0), (3, .int v3)]) (st' := [.int z1]) rfl ?_
    have e := Option.some.inj e; subst e; exact wp_iret (ty := .int) rfl rfl rfl c
  · refine wp_p (j := J_Layout_widthTold) 1 (pc' := 73) (lv' := [(5, .int w0), (3, .int v3)]) (st' := [.int v3]) rfl ?_
    have e := Option.some.inj e; subst e; exact wp_iret (ty := .int) rfl rfl rfl c
noncomputable def M_Layout_widthTold (v0 : Nat) (v1 : Int32) (v2 : Int32) (g : g_S) : Option Int32 :=
  (vc g 105 v0 (M_Layout_look v0 v1 6 g)).bind fun z1 =>
  if z1 = (-1) then
    some v2
  else
    (rQ g 105 v0 2).bind fun z2 =>
    (aQ g 8 z2 v1).bind fun z3 =>
    (rI g 103 z3 1).bind fun z4 =>
    if z4 = (-1) then
      (rI g 105 v0 3).bind fun z5 =>
      k_Layout_widthTold_49 z1 z5 g
    else
      (rQ g 105 v0 2).bind fun z6 =>
      (aQ g 8 z6 z4).bind fun z7 =>
      (vc g 103 z7 (M_Box_innerWidth z7 g)).bind fun z8 =>
      k_Layout_widthTold_49 z1 z8 g
set_option maxRecDepth 20000 in
theorem d_Layout_widthTold {L : Nat} {xs : Nat → Int32} {Q : Option Value → ab_H → Prop} {v0 : Nat} {v1 : Int32} {v2 : Int32} {g : g_S} {out : Int32} (e : M_Layout_widthTold v0 v1 v2 g = some out) (c : Q (some (.int out)) (hp g)) : mw (ab_ext L xs) J_Layout_widthTold [.ref v0, .int v1, .int v2] (hp g) Q := by
  unfold M_Layout_widthTold at e
  refine wp_p (j := J_Layout_widthTold) 3 (pc' := 4) (lv' := [(0, .ref v0), (1, .int v1), (2, .int v2)]) (st' := [.int 6, .int v1, .ref v0]) rfl ?_
  refine x_cv1 (As := [.int v1, .int 6]) (rest := []) Value.int e rfl rfl rfl rfl rfl rfl (fun h => d_Layout_look h ⟨rfl, rfl⟩) (fun z1 e => ?_)
  refine wp_p (j := J_Layout_widthTold) 3 (pc' := 10) (lv' := [(3, .int z1), (0, .ref v0), (1, .int v1), (2, .int v2)]) (st' := [.int (-1), .int z1]) rfl ?_
  refine x_ne e rfl (fun e => ?_) (fun e => ?_)
  · refine wp_p (j := J_Layout_widthTold) 1 (pc' := 14) (lv' := [(3, .int z1), (0, .ref v0), (1, .int v1), (2, .int v2)]) (st' := [.int v2]) rfl ?_
    have e := Option.some.inj e; subst e; exact wp_iret (ty := .int) rfl rfl rfl c
  · refine wp_p (j := J_Layout_widthTold) 1 (pc' := 16) (lv' := [(3, .int z1), (0, .ref v0), (1, .int v1), (2, .int v2)]) (st' := [.ref v0]) rfl ?_
    refine x_gQ e rfl rfl fd_5_2 rfl (fun z2 e => ?_)
    refine wp_p (j := J_Layout_widthTold) 1 (pc' := 20) (lv' := [(3, .int z1), (0, .ref v0), (1, .int v1), (2, .int v2)]) (st' := [.int v1, .ref z2]) rfl ?_
    refine x_aQ e rfl rfl rfl (fun z3 e => ?_)
    refine x_gI e rfl rfl fd_3_1 rfl (fun z4 e => ?_)
    refine wp_p (j := J_Layout_widthTold) 3 (pc' := 29) (lv' := [(4, .int z4), (3, .int z1), (0, .ref v0), (1, .int v1), (2, .int v2)]) (st' := [.int (-1), .int z4]) rfl ?_
    refine x_ne e rfl (fun e => ?_) (fun e => ?_)
    · refine wp_p (j := J_Layout_widthTold) 1 (pc' := 33) (lv' := [(4, .int z4), (3, .int z1), (0, .ref v0), (1, .int v1), (2, .int v2)]) (st' := [.ref v0]) rfl ?_
      refine x_gI e rfl rfl fd_5_3 rfl (fun z5 e => ?_)
      refine wp_p (j := J_Layout_widthTold) 1 (pc' := 49) (lv' := [(4, .int z4), (3, .int z1), (0, .ref v0), (1, .int v1), (2, .int v2)]) (st' := [.int z5]) rfl ?_
      exact wp_lv (lv' := [(3, .int z1)]) rfl ⟨rfl, trivial⟩ (x_Layout_widthTold_49 e c)
    · refine wp_p (j := J_Layout_widthTold) 1 (pc' := 40) (lv' := [(4, .int z4), (3, .int z1), (0, .ref v0), (1, .int v1), (2, .int v2)]) (st' := [.ref v0]) rfl ?_
      refine x_gQ e rfl rfl fd_5_2 rfl (fun z6 e => ?_)
      refine wp_p (j := J_Layout_widthTold) 1 (pc' := 45) (lv' := [(4, .int z4), (3, .int z1), (0, .ref v0), (1, .int v1), (2, .int v2)]) (st' := [.int z4, .ref z6]) rfl ?_
      refine x_aQ e rfl rfl rfl (fun z7 e => ?_)
      refine x_cv1 (As := []) (rest := []) Value.int e rfl rfl rfl rfl rfl rfl (fun h => d_Box_innerWidth h ⟨rfl, rfl⟩) (fun z8 e => ?_)
      exact wp_lv (lv' := [(3, .int z1)]) rfl ⟨rfl, trivial⟩ (x_Layout_widthTold_49 e c)
def cL_Layout_textWidth_66 (L : Nat) (xs : Nat → Int32) (Q : Option Value → ab_H → Prop) (v0 : Nat) (v1 : Int32) (v2 : Int32) (v5 : Int32) (v6 : Nat) (out : (Int32 × Int32 × Int32 × g_S) ⊕ (Int32 × Int32 × g_S)) : Prop := match out with
  | .inl s => wp (ab_ext L xs) J_Layout_textWidth 66 [(0, .ref v0), (1, .int v1), (2, .int v2), (3, .int s.1), (4, .int s.2.1), (5, .int v5), (6, .ref v6), (7, .int s.2.2.1)] [] (hp s.2.2.2) Q
  | .inr s => wp (ab_ext L xs) J_Layout_textWidth 172 [(0, .ref v0), (1, .int v1), (2, .int v2), (3, .int s.1), (4, .int s.2.1), (5, .int v5)] [] (hp s.2.2) Q
noncomputable def k_Layout_textWidth_145 (v0 : Nat) (v1 : Int32) (v2 : Int32) (v4 : Int32) (v5 : Int32) (v6 : Nat) (v7 : Int32) (v8 : Int32) (g : g_S) : Option ((Int32 × Int32 × Int32 × g_S) ⊕ (Int32 × Int32 × g_S)) :=
  (rQ g 105 v0 7).bind fun z1 =>
  (vc g 104 z1 (M_Bytes_add z1 v8 g)).bind fun g2 =>
  (M_Bytes_glyphWidth v8 g2).bind fun z3 =>
  some (.inl (0, v4 + z3, v7 + 1, g2))
set_option maxRecDepth 20000 in
theorem x_Layout_textWidth_145 {L : Nat} {xs : Nat → Int32} {Q : Option Value → ab_H → Prop} {v0 : Nat} {v1 : Int32} {v2 : Int32} {v4 : Int32} {v5 : Int32} {v6 : Nat} {v7 : Int32} {v8 : Int32} {g : g_S} {out : (Int32 × Int32 × Int32 × g_S) ⊕ (Int32 × Int32 × g_S)} (e : k_Layout_textWidth_145 v0 v1 v2 v4 v5 v6 v7 v8 g = some out) (c : cL_Layout_textWidth_66 L xs Q v0 v1 v2 v5 v6 out) : wp (ab_ext L xs) J_Layout_textWidth 145 [(0, .ref v0), (1, .int v1), (2, .int v2), (4, .int v4), (5, .int v5), (6, .ref v6), (7, .int v7), (8, .int v8)] [] (hp g) Q := by
  unfold k_Layout_textWidth_145 at e
  refine wp_p (j := J_Layout_textWidth) 3 (pc' := 148) (lv' := [(3, .int 0), (0, .ref v0), (1, .int v1), (2, .int v2), (4, .int v4), (5, .int v5), (6, .ref v6), (7, .int v7), (8, .int v8)]) (st' := [.ref v0]) rfl ?_
  refine x_gQ e rfl rfl fd_5_7 rfl (fun z1 e => ?_)
  refine wp_p (j := J_Layout_textWidth) 1 (pc' := 153) (lv' := [(3, .int 0), (0, .ref v0), (1, .int v1), (2, .int v2), (4, .int v4), (5, .int v5), (6, .ref v6), (7, .int v7), (8, .int v8)]) (st' := [.int v8, .ref z1]) rfl ?_
  refine x_cv0 (As := [.int v8]) (rest := []) e rfl rfl rfl rfl rfl rfl (fun h => d_Bytes_add h ⟨rfl, rfl⟩) (fun g2 e => ?_)
  refine wp_p (j := J_Layout_textWidth) 2 (pc' := 160) (lv' := [(3, .int 0), (0, .ref v0), (1, .int v1), (2, .int v2), (4, .int v4), (5, .int v5), (6, .ref v6), (7, .int v7), (8, .int v8)]) (st' := [.int v8, .int v4]) rfl ?_
  refine x_cs1 (As := [.int v8]) (rest := [.int v4]) Value.int e rfl rfl rfl rfl rfl (fun h => d_Bytes_glyphWidth h ⟨rfl, rfl⟩) (fun z3 e => ?_)
  refine wp_p (j := J_Layout_textWidth) 4 (pc' := 66) (lv' := [(7, .int (v7 + 1)), (4, .int (v4 + z3)), (3, .int 0), (0, .ref v0), (1, .int v1), (2, .int v2), (5, .int v5), (6, .ref v6), (8, .int v8)]) (st' := []) rfl ?_
  have e := Option.some.inj e; subst e; exact wp_lv (lv' := [(0, .ref v0), (1, .int v1), (2, .int v2), (3, .int 0), (4, .int (v4 + z3)), (5, .int v5), (6, .ref v6), (7, .int (v7 + 1))]) rfl ⟨rfl, rfl, rfl, rfl, rfl, rfl, rfl, rfl, trivial⟩ c
noncomputable def b_Layout_textWidth_66 (v0 : Nat) (v1 : Int32) (v2 : Int32) (v5 : Int32) (v6 : Nat) (v3 : Int32) (v4 : Int32) (v7 : Int32) (g : g_S) : Option ((Int32 × Int32 × Int32 × g_S) ⊕ (Int32 × Int32 × g_S)) :=
  (rI g 107 v6 0).bind fun z1 =>
  if z1 = 17 then
    (rQ g 107 v6 11).bind fun z2 =>
    (rI g 104 z2 2).bind fun z3 =>
    if v7 < z3 then
      (rQ g 107 v6 11).bind fun z4 =>
      (rQ g 104 z4 1).bind fun z5 =>
      (aI g 1 z5 v7).bind fun z6 =>
      (M_Bytes_isBlank z6 g).bind fun z7 =>
      if z7 = 0 then
        if v3 = 0 then
          k_Layout_textWidth_145 v0 v1 v2 v4 v5 v6 v7 z6 g
        else
          (rQ g 105 v0 7).bind fun z8 =>
          (vc g 104 z8 (M_Bytes_add z8 32 g)).bind fun g9 =>
          k_Layout_textWidth_145 v0 v1 v2 (v4 + 3) v5 v6 v7 z6 g9
      else
        (rQ g 105 v0 7).bind fun z10 =>
        (rI g 104 z10 2).bind fun z11 =>
        if 0 < z11 then
          some (.inl (1, v4, v7 + 1, g))
        else
          some (.inl (0, v4, v7 + 1, g))
    else
      some (.inr (v3, v4, g))
  else
    some (.inr (v3, v4, g))
set_option maxRecDepth 20000 in
theorem y_Layout_textWidth_66 {L : Nat} {xs : Nat → Int32} {Q : Option Value → ab_H → Prop} {v0 : Nat} {v1 : Int32} {v2 : Int32} {v5 : Int32} {v6 : Nat} {v3 : Int32} {v4 : Int32} {v7 : Int32} {g : g_S} {out : (Int32 × Int32 × Int32 × g_S) ⊕ (Int32 × Int32 × g_S)} (e : b_Layout_textWidth_66 v0 v1 v2 v5 v6 v3 v4 v7 g = some out) (c : cL_Layout_textWidth_66 L xs Q v0 v1 v2 v5 v6 out) : wp (ab_ext L xs) J_Layout_textWidth 66 [(0, .ref v0), (1, .int v1), (2, .int v2), (3, .int v3), (4, .int v4), (5, .int v5), (6, .ref v6), (7, .int v7)] [] (hp g) Q := by
  unfold b_Layout_textWidth_66 at e
  refine wp_p (j := J_Layout_textWidth) 1 (pc' := 68) (lv' := [(0, .ref v0), (1, .int v1), (2, .int v2), (3, .int v3), (4, .int v4), (5, .int v5), (6, .ref v6), (7, .int v7)]) (st' := [.ref v6]) rfl ?_
  refine x_gI e rfl rfl fd_7_0 rfl (fun z1 e => ?_)
  refine wp_p (j := J_Layout_textWidth) 1 (pc' := 73) (lv' := [(0, .ref v0), (1, .int v1), (2, .int v2), (3, .int v3), (4, .int v4), (5, .int v5), (6, .ref v6), (7, .int v7)]) (st' := [.int 17, .int z1]) rfl ?_
  refine x_ne e rfl (fun e => ?_) (fun e => ?_)
  · refine wp_p (j := J_Layout_textWidth) 2 (pc' := 80) (lv' := [(0, .ref v0), (1, .int v1), (2, .int v2), (3, .int v3), (4, .int v4), (5, .int v5), (6, .ref v6), (7, .int v7)]) (st' := [.ref v6, .int v7]) rfl ?_
    refine x_gQ e rfl rfl fd_7_11 rfl (fun z2 e => ?_)
    refine x_gI e rfl rfl fd_4_2 rfl (fun z3 e => ?_)
    refine x_ge e rfl (fun e => ?_) (fun e => ?_)
    · refine wp_p (j := J_Layout_textWidth) 1 (pc' := 91) (lv' := [(0, .ref v0), (1, .int v1), (2, .int v2), (3, .int v3), (4, .int v4), (5, .int v5), (6, .ref v6), (7, .int v7)]) (st' := [.ref v6]) rfl ?_
      refine x_gQ e rfl rfl fd_7_11 rfl (fun z4 e => ?_)
      refine x_gQ e rfl rfl fd_4_1 rfl (fun z5 e => ?_)
      refine wp_p (j := J_Layout_textWidth) 1 (pc' := 99) (lv' := [(0, .ref v0), (1, .int v1), (2, .int v2), (3, .int v3), (4, .int v4), (5, .int v5), (6, .ref v6), (7, .int v7)]) (st' := [.int v7, .ref z5]) rfl ?_
      refine x_aB e rfl (.inl rfl) rfl (fun z6 e => ?_)
      refine wp_p (j := J_Layout_textWidth) 2 (pc' := 104) (lv' := [(8, .int z6), (0, .ref v0), (1, .int v1), (2, .int v2), (3, .int v3), (4, .int v4), (5, .int v5), (6, .ref v6), (7, .int v7)]) (st' := [.int z6]) rfl ?_
      refine x_cs1 (As := [.int z6]) (rest := []) Value.int e rfl rfl rfl rfl rfl (fun h => d_Bytes_isBlank h ⟨rfl, rfl⟩) (fun z7 e => ?_)
      refine z_eq e rfl (fun e => ?_) (fun e => ?_)
      · refine wp_p (j := J_Layout_textWidth) 1 (pc' := 130) (lv' := [(8, .int z6), (0, .ref v0), (1, .int v1), (2, .int v2), (3, .int v3), (4, .int v4), (5, .int v5), (6, .ref v6), (7, .int v7)]) (st' := [.int v3]) rfl ?_
        refine z_eq e rfl (fun e => ?_) (fun e => ?_)
        · exact wp_lv (lv' := [(0, .ref v0), (1, .int v1), (2, .int v2), (4, .int v4), (5, .int v5), (6, .ref v6), (7, .int v7), (8, .int z6)]) rfl ⟨rfl, rfl, rfl, rfl, rfl, rfl, rfl, rfl, trivial⟩ (x_Layout_textWidth_145 e c)
        · refine wp_p (j := J_Layout_textWidth) 1 (pc' := 134) (lv' := [(8, .int z6), (0, .ref v0), (1, .int v1), (2, .int v2), (3, .int v3), (4, .int v4), (5, .int v5), (6, .ref v6), (7, .int v7)]) (st' := [.ref v0]) rfl ?_
          refine x_gQ e rfl rfl fd_5_7 rfl (fun z8 e => ?_)
          refine wp_p (j := J_Layout_textWidth) 1 (pc' := 139) (lv' := [(8, .int z6), (0, .ref v0), (1, .int v1), (2, .int v2), (3, .int v3), (4, .int v4), (5, .int v5), (6, .ref v6), (7, .int v7)]) (st' := [.int 32, .ref z8]) rfl ?_
          refine x_cv0 (As := [.int 32]) (rest := []) e rfl rfl rfl rfl rfl rfl (fun h => d_Bytes_add h ⟨rfl, rfl⟩) (fun g9 e => ?_)
          refine wp_p (j := J_Layout_textWidth) 1 (pc' := 145) (lv' := [(4, .int (v4 + 3)), (8, .int z6), (0, .ref v0), (1, .int v1), (2, .int v2), (3, .int v3), (5, .int v5), (6, .ref v6), (7, .int v7)]) (st' := []) rfl ?_
          exact wp_lv (lv' := [(0, .ref v0), (1, .int v1), (2, .int v2), (4, .int (v4 + 3)), (5, .int v5), (6, .ref v6), (7, .int v7), (8, .int z6)]) rfl ⟨rfl, rfl, rfl, rfl, rfl, rfl, rfl, rfl, trivial⟩ (x_Layout_textWidth_145 e c)
      · refine wp_p (j := J_Layout_textWidth) 1 (pc' := 111) (lv' := [(8, .int z6), (0, .ref v0), (1, .int v1), (2, .int v2), (3, .int v3), (4, .int v4), (5, .int v5), (6, .ref v6), (7, .int v7)]) (st' := [.ref v0]) rfl ?_
        refine x_gQ e rfl rfl fd_5_7 rfl (fun z10 e => ?_)
        refine x_gI e rfl rfl fd_4_2 rfl (fun z11 e => ?_)
        refine z_le e rfl (fun e => ?_) (fun e => ?_)
        · refine wp_p (j := J_Layout_textWidth) 6 (pc' := 66) (lv' := [(7, .int (v7 + 1)), (3, .int 1), (8, .int z6), (0, .ref v0), (1, .int v1), (2, .int v2), (4, .int v4), (5, .int v5), (6, .ref v6)]) (st' := []) rfl ?_
          have e := Option.some.inj e; subst e; exact wp_lv (lv' := [(0, .ref v0), (1, .int v1), (2, .int v2), (3, .int 1), (4, .int v4), (5, .int v5), (6, .ref v6), (7, .int (v7 + 1))]) rfl ⟨rfl, rfl, rfl, rfl, rfl, rfl, rfl, rfl, trivial⟩ c
        · refine wp_p (j := J_Layout_textWidth) 5 (pc' := 66) (lv' := [(7, .int (v7 + 1)), (3, .int 0), (8, .int z6), (0, .ref v0), (1, .int v1), (2, .int v2), (4, .int v4), (5, .int v5), (6, .ref v6)]) (st' := []) rfl ?_
          have e := Option.some.inj e; subst e; exact wp_lv (lv' := [(0, .ref v0), (1, .int v1), (2, .int v2), (3, .int 0), (4, .int v4), (5, .int v5), (6, .ref v6), (7, .int (v7 + 1))]) rfl ⟨rfl, rfl, rfl, rfl, rfl, rfl, rfl, rfl, trivial⟩ c
    · have e := Option.some.inj e; subst e; exact wp_lv (lv' := [(0, .ref v0), (1, .int v1), (2, .int v2), (3, .int v3), (4, .int v4), (5, .int v5)]) rfl ⟨rfl, rfl, rfl, rfl, rfl, rfl, trivial⟩ c
  · have e := Option.some.inj e; subst e; exact wp_lv (lv' := [(0, .ref v0), (1, .int v1), (2, .int v2), (3, .int v3), (4, .int v4), (5, .int v5)]) rfl ⟨rfl, rfl, rfl, rfl, rfl, rfl, trivial⟩ c
noncomputable def L_Layout_textWidth_66 (v0 : Nat) (v1 : Int32) (v2 : Int32) (v5 : Int32) (v6 : Nat) (v3 : Int32) (v4 : Int32) (v7 : Int32) (g : g_S) : Option (Int32 × Int32 × g_S) := it (fun s : Int32 × Int32 × Int32 × g_S => b_Layout_textWidth_66 v0 v1 v2 v5 v6 s.1 s.2.1 s.2.2.1 s.2.2.2) (v3, v4, v7, g)
theorem l_Layout_textWidth_66 {L : Nat} {xs : Nat → Int32} {Q : Option Value → ab_H → Prop} {v0 : Nat} {v1 : Int32} {v2 : Int32} {v5 : Int32} {v6 : Nat} {v3 : Int32} {v4 : Int32} {v7 : Int32} {g : g_S} {r : Int32 × Int32 × g_S} (e : L_Layout_textWidth_66 v0 v1 v2 v5 v6 v3 v4 v7 g = some r) (c : cL_Layout_textWidth_66 L xs Q v0 v1 v2 v5 v6 (.inr r)) : wp (ab_ext L xs) J_Layout_textWidth 66 [(0, .ref v0), (1, .int v1), (2, .int v2), (3, .int v3), (4, .int v4), (5, .int v5), (6, .ref v6), (7, .int v7)] [] (hp g) Q :=
  it_wp (P := fun s : Int32 × Int32 × Int32 × g_S => wp (ab_ext L xs) J_Layout_textWidth 66 [(0, .ref v0), (1, .int v1), (2, .int v2), (3, .int s.1), (4, .int s.2.1), (5, .int v5), (6, .ref v6), (7, .int s.2.2.1)] [] (hp s.2.2.2) Q) (E := fun r => cL_Layout_textWidth_66 L xs Q v0 v1 v2 v5 v6 (.inr r)) (fun s out e c => y_Layout_textWidth_66 e (by cases out <;> exact c)) e c
theorem L_Layout_textWidth_66_eq (v0 : Nat) (v1 : Int32) (v2 : Int32) (v5 : Int32) (v6 : Nat) (v3 : Int32) (v4 : Int32) (v7 : Int32) (g : g_S) : L_Layout_textWidth_66 v0 v1 v2 v5 v6 v3 v4 v7 g = itc (b_Layout_textWidth_66 v0 v1 v2 v5 v6 v3 v4 v7 g) (fun s => L_Layout_textWidth_66 v0 v1 v2 v5 v6 s.1 s.2.1 s.2.2.1 s.2.2.2) := it_eq2 (fun s : Int32 × Int32 × Int32 × g_S => b_Layout_textWidth_66 v0 v1 v2 v5 v6 s.1 s.2.1 s.2.2.1 s.2.2.2) (v3, v4, v7, g)
def cL_Layout_textWidth_26 (L : Nat) (xs : Nat → Int32) (Q : Option Value → ab_H → Prop) (v0 : Nat) (v1 : Int32) (v2 : Int32) (out : (Int32 × Int32 × Int32 × g_S) ⊕ (Int32 × g_S)) : Prop := match out with
  | .inl s => wp (ab_ext L xs) J_Layout_textWidth 26 [(0, .ref v0), (1, .int v1), (2, .int v2), (3, .int s.1), (4, .int s.2.1), (5, .int s.2.2.1)] [] (hp s.2.2.2) Q
  | .inr s => wp (ab_ext L xs) J_Layout_textWidth 178 [(2, .int v2), (4, .int s.1)] [] (hp s.2) Q
noncomputable def b_Layout_textWidth_26 (v0 : Nat) (v1 : Int32) (v2 : Int32) (v3 : Int32) (v4 : Int32) (v5 : Int32) (g : g_S) : Option ((Int32 × Int32 × Int32 × g_S) ⊕ (Int32 × g_S)) :=
  (rQ g 105 v0 0).bind fun z1 =>
  (rQ g 110 z1 0).bind fun z2 =>
  (aQ g 5 z2 v1).bind fun z3 =>
  (rI g 107 z3 9).bind fun z4 =>
  if v5 < z4 then
    (rQ g 105 v0 0).bind fun z5 =>
    (rQ g 110 z5 0).bind fun z6 =>
    (rQ g 105 v0 0).bind fun z7 =>
    (rQ g 110 z7 2).bind fun z8 =>
    (aI g 0 z8 v5).bind fun z9 =>
    (aQ g 5 z6 z9).bind fun z10 =>
    (L_Layout_textWidth_66 v0 v1 v2 v5 z10 v3 v4 0 g).bind <| u3 fun z13 z14 g15 =>
    some (.inl (z13, z14, v5 + 1, g15))
  else
    some (.inr (v4, g))
set_option maxRecDepth 20000 in
theorem y_Layout_textWidth_26 {L : Nat} {xs : Nat → Int32} {Q : Option Value → ab_H → Prop} {v0 : Nat} {v1 : Int32} {v2 : Int32} {v3 : Int32} {v4 : Int32} {v5 : Int32} {g : g_S} {out : (Int32 × Int32 × Int32 × g_S) ⊕ (Int32 × g_S)} (e : b_Layout_textWidth_26 v0 v1 v2 v3 v4 v5 g = some out) (c : cL_Layout_textWidth_26 L xs Q v0 v1 v2 out) : wp (ab_ext L xs) J_Layout_textWidth 26 [(0, .ref v0), (1, .int v1), (2, .int v2), (3, .int v3), (4, .int v4), (5, .int v5)] [] (hp g) Q := by
  unfold b_Layout_textWidth_26 at e
  refine wp_p (j := J_Layout_textWidth) 2 (pc' := 29) (lv' := [(0, .ref v0), (1, .int v1), (2, .int v2), (3, .int v3), (4, .int v4), (5, .int v5)]) (st' := [.ref v0, .int v5]) rfl ?_
  refine x_gQ e rfl rfl fd_5_0 rfl (fun z1 e => ?_)
  refine x_gQ e rfl rfl fd_10_0 rfl (fun z2 e => ?_)
  refine wp_p (j := J_Layout_textWidth) 1 (pc' := 36) (lv' := [(0, .ref v0), (1, .int v1), (2, .int v2), (3, .int v3), (4, .int v4), (5, .int v5)]) (st' := [.int v1, .ref z2, .int v5]) rfl ?_
  refine x_aQ e rfl rfl rfl (fun z3 e => ?_)
  refine x_gI e rfl rfl fd_7_9 rfl (fun z4 e => ?_)
  refine x_ge e rfl (fun e => ?_) (fun e => ?_)
  · refine wp_p (j := J_Layout_textWidth) 1 (pc' := 44) (lv' := [(0, .ref v0), (1, .int v1), (2, .int v2), (3, .int v3), (4, .int v4), (5, .int v5)]) (st' := [.ref v0]) rfl ?_
    refine x_gQ e rfl rfl fd_5_0 rfl (fun z5 e => ?_)
    refine x_gQ e rfl rfl fd_10_0 rfl (fun z6 e => ?_)
    refine wp_p (j := J_Layout_textWidth) 1 (pc' := 51) (lv' := [(0, .ref v0), (1, .int v1), (2, .int v2), (3, .int v3), (4, .int v4), (5, .int v5)]) (st' := [.ref v0, .ref z6]) rfl ?_
    refine x_gQ e rfl rfl fd_5_0 rfl (fun z7 e => ?_)
    refine x_gQ e rfl rfl fd_10_2 rfl (fun z8 e => ?_)
    refine wp_p (j := J_Layout_textWidth) 1 (pc' := 59) (lv' := [(0, .ref v0), (1, .int v1), (2, .int v2), (3, .int v3), (4, .int v4), (5, .int v5)]) (st' := [.int v5, .ref z8, .ref z6]) rfl ?_
    refine x_aI e rfl rfl (fun z9 e => ?_)
    refine x_aQ e rfl rfl rfl (fun z10 e => ?_)
    refine wp_p (j := J_Layout_textWidth) 3 (pc' := 66) (lv' := [(7, .int 0), (6, .ref z10), (0, .ref v0), (1, .int v1), (2, .int v2), (3, .int v3), (4, .int v4), (5, .int v5)]) (st' := []) rfl ?_
    obtain ⟨s11, h12, e⟩ := bd e
    refine wp_lv (lv' := [(0, .ref v0), (1, .int v1), (2, .int v2), (3, .int v3), (4, .int v4), (5, .int v5), (6, .ref z10), (7, .int 0)]) rfl ⟨rfl, rfl, rfl, rfl, rfl, rfl, rfl, rfl, trivial⟩ ?_
    refine l_Layout_textWidth_66 h12 ?_
    obtain ⟨z13, z14, g15⟩ := s11
    replace e := u3_e e
    show wp (ab_ext L xs) J_Layout_textWidth 172 [(0, .ref v0), (1, .int v1), (2, .int v2), (3, .int z13), (4, .int z14), (5, .int v5)] [] (hp g15) Q
    refine wp_p (j := J_Layout_textWidth) 2 (pc' := 26) (lv' := [(5, .int (v5 + 1)), (0, .ref v0), (1, .int v1), (2, .int v2), (3, .int z13), (4, .int z14)]) (st' := []) rfl ?_
    have e := Option.some.inj e; subst e; exact wp_lv (lv' := [(0, .ref v0), (1, .int v1), (2, .int v2), (3, .int z13), (4, .int z14), (5, .int (v5 + 1))]) rfl ⟨rfl, rfl, rfl, rfl, rfl, rfl, trivial⟩ c
  · have e := Option.some.inj e; subst e; exact wp_lv (lv' := [(2, .int v2), (4, .int v4)]) rfl ⟨rfl, rfl, trivial⟩ c
noncomputable def L_Layout_textWidth_26 (v0 : Nat) (v1 : Int32) (v2 : Int32) (v3 : Int32) (v4 : Int32) (v5 : Int32) (g : g_S) : Option (Int32 × g_S) := it (fun s : Int32 × Int32 × Int32 × g_S => b_Layout_textWidth_26 v0 v1 v2 s.1 s.2.1 s.2.2.1 s.2.2.2) (v3, v4, v5, g)
theorem l_Layout_textWidth_26 {L : Nat} {xs : Nat → Int32} {Q : Option Value → ab_H → Prop} {v0 : Nat} {v1 : Int32} {v2 : Int32} {v3 : Int32} {v4 : Int32} {v5 : Int32} {g : g_S} {r : Int32 × g_S} (e : L_Layout_textWidth_26 v0 v1 v2 v3 v4 v5 g = some r) (c : cL_Layout_textWidth_26 L xs Q v0 v1 v2 (.inr r)) : wp (ab_ext L xs) J_Layout_textWidth 26 [(0, .ref v0), (1, .int v1), (2, .int v2), (3, .int v3), (4, .int v4), (5, .int v5)] [] (hp g) Q :=
  it_wp (P := fun s : Int32 × Int32 × Int32 × g_S => wp (ab_ext L xs) J_Layout_textWidth 26 [(0, .ref v0), (1, .int v1), (2, .int v2), (3, .int s.1), (4, .int s.2.1), (5, .int s.2.2.1)] [] (hp s.2.2.2) Q) (E := fun r => cL_Layout_textWidth_26 L xs Q v0 v1 v2 (.inr r)) (fun s out e c => y_Layout_textWidth_26 e (by cases out <;> exact c)) e c
theorem L_Layout_textWidth_26_eq (v0 : Nat) (v1 : Int32) (v2 : Int32) (v3 : Int32) (v4 : Int32) (v5 : Int32) (g : g_S) : L_Layout_textWidth_26 v0 v1 v2 v3 v4 v5 g = itc (b_Layout_textWidth_26 v0 v1 v2 v3 v4 v5 g) (fun s => L_Layout_textWidth_26 v0 v1 v2 s.1 s.2.1 s.2.2.1 s.2.2.2) := it_eq2 (fun s : Int32 × Int32 × Int32 × g_S => b_Layout_textWidth_26 v0 v1 v2 s.1 s.2.1 s.2.2.1 s.2.2.2) (v3, v4, v5, g)
noncomputable def M_Layout_textWidth (v0 : Nat) (v1 : Int32) (v2 : Int32) (g : g_S) : Option (Int32 × g_S) :=
  (rQ g 105 v0 7).bind fun z1 =>
  (vc g 104 z1 (M_Bytes_clear z1 g)).bind fun g2 =>
  (rQ g2 105 v0 0).bind fun z3 =>
  (rQ g2 110 z3 0).bind fun z4 =>
  (aQ g2 5 z4 v1).bind fun z5 =>
  (rI g2 107 z5 8).bind fun z6 =>
  (L_Layout_textWidth_26 v0 v1 v2 0 0 z6 g2).bind <| u2 fun z9 g10 =>
  some (z9 * v2, g10)
set_option maxRecDepth 20000 in
theorem d_Layout_textWidth {L : Nat} {xs : Nat → Int32} {Q : Option Value → ab_H → Prop} {v0 : Nat} {v1 : Int32} {v2 : Int32} {g : g_S} {out : Int32 × g_S} (e : M_Layout_textWidth v0 v1 v2 g = some out) (c : Q (some (.int out.1)) (hp out.2)) : mw (ab_ext L xs) J_Layout_textWidth [.ref v0, .int v1, .int v2] (hp g) Q := by
  unfold M_Layout_textWidth at e
  refine wp_p (j := J_Layout_textWidth) 1 (pc' := 1) (lv' := [(0, .ref v0), (1, .int v1), (2, .int v2)]) (st' := [.ref v0]) rfl ?_
  refine x_gQ e rfl rfl fd_5_7 rfl (fun z1 e => ?_)
  refine x_cv0 (As := []) (rest := []) e rfl rfl rfl rfl rfl rfl (fun h => d_Bytes_clear h ⟨rfl, rfl⟩) (fun g2 e => ?_)
  refine wp_p (j := J_Layout_textWidth) 5 (pc' := 13) (lv' := [(4, .int 0), (3, .int 0), (0, .ref v0), (1, .int v1), (2, .int v2)]) (st' := [.ref v0]) rfl ?_
  refine x_gQ e rfl rfl fd_5_0 rfl (fun z3 e => ?_)
  refine x_gQ e rfl rfl fd_10_0 rfl (fun z4 e => ?_)
  refine wp_p (j := J_Layout_textWidth) 1 (pc' := 20) (lv' := [(4, .int 0), (3, .int 0), (0, .ref v0), (1, .int v1), (2, .int v2)]) (st' := [.int v1, .ref z4]) rfl ?_
  refine x_aQ e rfl rfl rfl (fun z5 e => ?_)
  refine x_gI e rfl rfl fd_7_8 rfl (fun z6 e => ?_)
  refine wp_p (j := J_Layout_textWidth) 1 (pc' := 26) (lv' := [(5, .int z6), (4, .int 0), (3, .int 0), (0, .ref v0), (1, .int v1), (2, .int v2)]) (st' := []) rfl ?_
  obtain ⟨s7, h8, e⟩ := bd e
  refine wp_lv (lv' := [(0, .ref v0), (1, .int v1), (2, .int v2), (3, .int 0), (4, .int 0), (5, .int z6)]) rfl ⟨rfl, rfl, rfl, rfl, rfl, rfl, trivial⟩ ?_
  refine l_Layout_textWidth_26 h8 ?_
  obtain ⟨z9, g10⟩ := s7
  replace e := u2_e e
  show wp (ab_ext L xs) J_Layout_textWidth 178 [(2, .int v2), (4, .int z9)] [] (hp g10) Q
  refine wp_p (j := J_Layout_textWidth) 3 (pc' := 182) (lv' := [(2, .int v2), (4, .int z9)]) (st' := [.int (z9 * v2)]) rfl ?_
  have e := Option.some.inj e; subst e; exact wp_iret (ty := .int) rfl rfl rfl c
noncomputable def k_Layout_measurePiece_50 (w0 : Int32) (w1 : Nat) (g : g_S) : Option g_S :=
  (wI g 103 w1 5 w0).bind fun g1 =>
  some g1
set_option maxRecDepth 20000 in
theorem x_Layout_measurePiece_50 {L : Nat} {xs : Nat → Int32} {Q : Option Value → ab_H → Prop} {w0 : Int32} {w1 : Nat} {g : g_S} {out : g_S} (e : k_Layout_measurePiece_50 w0 w1 g = some out) (c : Q none (hp out)) : wp (ab_ext L xs) J_Layout_measurePiece 50 [] [.int w0, .ref w1] (hp g) Q := by
  unfold k_Layout_measurePiece_50 at e
  refine x_pI e rfl rfl fw_3_5 rfl (fun g1 e => ?_)
  refine wp_p (j := J_Layout_measurePiece) 1 (pc' := 117) (lv' := []) (st' := []) rfl ?_
  have e := Option.some.inj e; subst e; exact wp_vret rfl rfl c
noncomputable def M_Layout_measurePiece (v0 : Nat) (v1 : Int32) (v2 : Int32) (v3 : Nat) (g : g_S) : Option g_S :=
  (rI g 103 v3 11).bind fun z1 =>
  if v2 = 12 then
    (vc g 105 v0 (M_Layout_widthTold v0 v1 8 g)).bind fun z2 =>
    (wI g 103 v3 4 z2).bind fun g3 =>
    (vc g3 105 v0 (M_Layout_look v0 v1 7 g3)).bind fun z4 =>
    if z4 = (-1) then
      k_Layout_measurePiece_50 8 v3 g3
    else
      (vc g3 105 v0 (M_Layout_look v0 v1 7 g3)).bind fun z5 =>
      k_Layout_measurePiece_50 z5 v3 g3
  else
    if v2 = 13 then
      (vc g 105 v0 (M_Layout_widthTold v0 v1 24 g)).bind fun z6 =>
      (wI g 103 v3 4 z6).bind fun g7 =>
      (wI g7 103 v3 5 ((7 * z1) + 4)).bind fun g8 =>
      some g8
    else
      (rI g 103 v3 11).bind fun z9 =>
      c2 (vc g 105 v0 (M_Layout_textWidth v0 v1 z9 g)) fun z10 g11 =>
      (rI g11 103 v3 8).bind fun z12 =>
      (wI g11 103 v3 4 (z10 + (2 * z12))).bind fun g13 =>
      (rI g13 103 v3 8).bind fun z14 =>
      (wI g13 103 v3 5 ((7 * z1) + (2 * z14))).bind fun g15 =>
      some g15
set_option maxRecDepth 20000 in
theorem d_Layout_measurePiece {L : Nat} {xs : Nat → Int32} {Q : Option Value → ab_H → Prop} {v0 : Nat} {v1 : Int32} {v2 : Int32} {v3 : Nat} {g : g_S} {out : g_S} (e : M_Layout_measurePiece v0 v1 v2 v3 g = some out) (c : Q none (hp out)) : mw (ab_ext L xs) J_Layout_measurePiece [.ref v0, .int v1, .int v2, .ref v3] (hp g) Q := by
  unfold M_Layout_measurePiece at e
  refine wp_p (j := J_Layout_measurePiece) 2 (pc' := 3) (lv' := [(0, .ref v0), (1, .int v1), (2, .int v2), (3, .ref v3)]) (st' := [.ref v3, .int 7]) rfl ?_
  refine x_gI e rfl rfl fd_3_11 rfl (fun z1 e => ?_)
  refine wp_p (j := J_Layout_measurePiece) 4 (pc' := 12) (lv' := [(4, .int (7 * z1)), (0, .ref v0), (1, .int v1), (2, .int v2), (3, .ref v3)]) (st' := [.int 12, .int v2]) rfl ?_
  refine x_ne e rfl (fun e => ?_) (fun e => ?_)
  · refine wp_p (j := J_Layout_measurePiece) 4 (pc' := 20) (lv' := [(4, .int (7 * z1)), (0, .ref v0), (1, .int v1), (2, .int v2), (3, .ref v3)]) (st' := [.int 8, .int v1, .ref v0, .ref v3]) rfl ?_
    refine x_cv1 (As := [.int v1, .int 8]) (rest := [.ref v3]) Value.int e rfl rfl rfl rfl rfl rfl (fun h => d_Layout_widthTold h ⟨rfl, rfl⟩) (fun z2 e => ?_)
    refine x_pI e rfl rfl fw_3_4 rfl (fun g3 e => ?_)
    refine wp_p (j := J_Layout_measurePiece) 4 (pc' := 31) (lv' := [(4, .int (7 * z1)), (0, .ref v0), (1, .int v1), (2, .int v2), (3, .ref v3)]) (st' := [.int 7, .int v1, .ref v0, .ref v3]) rfl ?_
    refine x_cv1 (As := [.int v1, .int 7]) (rest := [.ref v3]) Value.int e rfl rfl rfl rfl rfl rfl (fun h => d_Layout_look h ⟨rfl, rfl⟩) (fun z4 e => ?_)
    refine wp_p (j := J_Layout_measurePiece) 1 (pc' := 35) (lv' := [(4, .int (7 * z1)), (0, .ref v0), (1, .int v1), (2, .int v2), (3, .ref v3)]) (st' := [.int (-1), .int z4, .ref v3]) rfl ?_
    refine x_ne e rfl (fun e => ?_) (fun e => ?_)
    · refine wp_p (j := J_Layout_measurePiece) 2 (pc' := 50) (lv' := [(4, .int (7 * z1)), (0, .ref v0), (1, .int v1), (2, .int v2), (3, .ref v3)]) (st' := [.int 8, .ref v3]) rfl ?_
      exact wp_lv (lv' := []) rfl trivial (x_Layout_measurePiece_50 e c)
    · refine wp_p (j := J_Layout_measurePiece) 3 (pc' := 47) (lv' := [(4, .int (7 * z1)), (0, .ref v0), (1, .int v1), (2, .int v2), (3, .ref v3)]) (st' := [.int 7, .int v1, .ref v0, .ref v3]) rfl ?_
      refine x_cv1 (As := [.int v1, .int 7]) (rest := [.ref v3]) Value.int e rfl rfl rfl rfl rfl rfl (fun h => d_Layout_look h ⟨rfl, rfl⟩) (fun z5 e => ?_)
      exact wp_lv (lv' := []) rfl trivial (x_Layout_measurePiece_50 e c)
  · refine wp_p (j := J_Layout_measurePiece) 2 (pc' := 59) (lv' := [(4, .int (7 * z1)), (0, .ref v0), (1, .int v1), (2, .int v2), (3, .ref v3)]) (st' := [.int 13, .int v2]) rfl ?_
    refine x_ne e rfl (fun e => ?_) (fun e => ?_)
    · refine wp_p (j := J_Layout_measurePiece) 4 (pc' := 67) (lv' := [(4, .int (7 * z1)), (0, .ref v0), (1, .int v1), (2, .int v2), (3, .ref v3)]) (st' := [.int 24, .int v1, .ref v0, .ref v3]) rfl ?_
      refine x_cv1 (As := [.int v1, .int 24]) (rest := [.ref v3]) Value.int e rfl rfl rfl rfl rfl rfl (fun h => d_Layout_widthTold h ⟨rfl, rfl⟩) (fun z6 e => ?_)
      refine x_pI e rfl rfl fw_3_4 rfl (fun g7 e => ?_)
      refine wp_p (j := J_Layout_measurePiece) 4 (pc' := 78) (lv' := [(4, .int (7 * z1)), (0, .ref v0), (1, .int v1), (2, .int v2), (3, .ref v3)]) (st' := [.int ((7 * z1) + 4), .ref v3]) rfl ?_
      refine x_pI e rfl rfl fw_3_5 rfl (fun g8 e => ?_)
      refine wp_p (j := J_Layout_measurePiece) 1 (pc' := 117) (lv' := [(4, .int (7 * z1)), (0, .ref v0), (1, .int v1), (2, .int v2), (3, .ref v3)]) (st' := []) rfl ?_
      have e := Option.some.inj e; subst e; exact wp_vret rfl rfl c
    · refine wp_p (j := J_Layout_measurePiece) 4 (pc' := 88) (lv' := [(4, .int (7 * z1)), (0, .ref v0), (1, .int v1), (2, .int v2), (3, .ref v3)]) (st' := [.ref v3, .int v1, .ref v0, .ref v3]) rfl ?_
      refine x_gI e rfl rfl fd_3_11 rfl (fun z9 e => ?_)
      refine x_cv2 (As := [.int v1, .int z9]) (rest := [.ref v3]) Value.int e rfl rfl rfl rfl rfl rfl (fun h => d_Layout_textWidth h ⟨rfl, rfl⟩) (fun z10 g11 e => ?_)
      refine wp_p (j := J_Layout_measurePiece) 2 (pc' := 96) (lv' := [(4, .int (7 * z1)), (0, .ref v0), (1, .int v1), (2, .int v2), (3, .ref v3)]) (st' := [.ref v3, .int 2, .int z10, .ref v3]) rfl ?_
      refine x_gI e rfl rfl fd_3_8 rfl (fun z12 e => ?_)
      refine wp_p (j := J_Layout_measurePiece) 2 (pc' := 101) (lv' := [(4, .int (7 * z1)), (0, .ref v0), (1, .int v1), (2, .int v2), (3, .ref v3)]) (st' := [.int (z10 + (2 * z12)), .ref v3]) rfl ?_
      refine x_pI e rfl rfl fw_3_4 rfl (fun g13 e => ?_)
      refine wp_p (j := J_Layout_measurePiece) 4 (pc' := 109) (lv' := [(4, .int (7 * z1)), (0, .ref v0), (1, .int v1), (2, .int v2), (3, .ref v3)]) (st' := [.ref v3, .int 2, .int (7 * z1), .ref v3]) rfl ?_
      refine x_gI e rfl rfl fd_3_8 rfl (fun z14 e => ?_)
      refine wp_p (j := J_Layout_measurePiece) 2 (pc' := 114) (lv' := [(4, .int (7 * z1)), (0, .ref v0), (1, .int v1), (2, .int v2), (3, .ref v3)]) (st' := [.int ((7 * z1) + (2 * z14)), .ref v3]) rfl ?_
      refine x_pI e rfl rfl fw_3_5 rfl (fun g15 e => ?_)
      have e := Option.some.inj e; subst e; exact wp_vret rfl rfl c
noncomputable def k_Layout_measureBlock_119 (v0 : Nat) (v1 : Int32) (v2 : Nat) (v5 : Int32) (g : g_S) : Option g_S :=
  (vc g 105 v0 (M_Layout_widthTold v0 v1 v5 g)).bind fun z1 =>
  (rI g 103 v2 8).bind fun z2 =>
  (wI g 103 v2 4 (mx z1 (2 * z2))).bind fun g3 =>
  some g3
set_option maxRecDepth 20000 in
theorem x_Layout_measureBlock_119 {L : Nat} {xs : Nat → Int32} {Q : Option Value → ab_H → Prop} {v0 : Nat} {v1 : Int32} {v2 : Nat} {v5 : Int32} {g : g_S} {out : g_S} (e : k_Layout_measureBlock_119 v0 v1 v2 v5 g = some out) (c : Q none (hp out)) : wp (ab_ext L xs) J_Layout_measureBlock 119 [(0, .ref v0), (1, .int v1), (2, .ref v2), (5, .int v5)] [] (hp g) Q := by
  unfold k_Layout_measureBlock_119 at e
  refine wp_p (j := J_Layout_measureBlock) 4 (pc' := 124) (lv' := [(0, .ref v0), (1, .int v1), (2, .ref v2), (5, .int v5)]) (st' := [.int v5, .int v1, .ref v0, .ref v2]) rfl ?_
  refine x_cv1 (As := [.int v1, .int v5]) (rest := [.ref v2]) Value.int e rfl rfl rfl rfl rfl rfl (fun h => d_Layout_widthTold h ⟨rfl, rfl⟩) (fun z1 e => ?_)
  refine wp_p (j := J_Layout_measureBlock) 2 (pc' := 129) (lv' := [(0, .ref v0), (1, .int v1), (2, .ref v2), (5, .int v5)]) (st' := [.ref v2, .int 2, .int z1, .ref v2]) rfl ?_
  refine x_gI e rfl rfl fd_3_8 rfl (fun z2 e => ?_)
  refine wp_p (j := J_Layout_measureBlock) 1 (pc' := 133) (lv' := [(0, .ref v0), (1, .int v1), (2, .ref v2), (5, .int v5)]) (st' := [.int (2 * z2), .int z1, .ref v2]) rfl ?_
  refine x_mx rfl rfl ?_
  refine x_pI e rfl rfl fw_3_4 rfl (fun g3 e => ?_)
  have e := Option.some.inj e; subst e; exact wp_vret rfl rfl c
noncomputable def k_Layout_measureBlock_47 (v0 : Nat) (v1 : Int32) (v2 : Nat) (v3 : Nat) (v4 : Int32) (w0 : Int32) (w1 : Nat) (g : g_S) : Option g_S :=
  (wI g 103 w1 13 w0).bind fun g1 =>
  (vc g1 103 v3 (M_Box_innerWidth v3 g1)).bind fun z2 =>
  (rI g1 103 v2 6).bind fun z3 =>
  if v4 = 0 then
    (rI g1 103 v2 13).bind fun z4 =>
    if z4 = 0 then
      k_Layout_measureBlock_119 v0 v1 v2 (z2 - (2 * z3)) g1
    else
      (rI g1 103 v2 11).bind fun z5 =>
      c2 (vc g1 105 v0 (M_Layout_textWidth v0 v1 z5 g1)) fun z6 g7 =>
      (rI g7 103 v2 8).bind fun z8 =>
      k_Layout_measureBlock_119 v0 v1 v2 (mn (z2 - (2 * z3)) (z6 + (2 * z8))) g7
  else
    (rI g1 103 v2 11).bind fun z9 =>
    c2 (vc g1 105 v0 (M_Layout_textWidth v0 v1 z9 g1)) fun z10 g11 =>
    (rI g11 103 v2 8).bind fun z12 =>
    k_Layout_measureBlock_119 v0 v1 v2 (z10 + (2 * z12)) g11
set_option maxRecDepth 20000 in
theorem x_Layout_measureBlock_47 {L : Nat} {xs : Nat → Int32} {Q : Option Value → ab_H → Prop} {v0 : Nat} {v1 : Int32} {v2 : Nat} {v3 : Nat} {v4 : Int32} {w0 : Int32} {w1 : Nat} {g : g_S} {out : g_S} (e : k_Layout_measureBlock_47 v0 v1 v2 v3 v4 w0 w1 g = some out) (c : Q none (hp out)) : wp (ab_ext L xs) J_Layout_measureBlock 47 [(0, .ref v0), (1, .int v1), (2, .ref v2), (3, .ref v3), (4, .int v4)] [.int w0, .ref w1] (hp g) Q := by
  unfold k_Layout_measureBlock_47 at e
  refine x_pI e rfl rfl fw_3_13 rfl (fun g1 e => ?_)
  refine wp_p (j := J_Layout_measureBlock) 1 (pc' := 51) (lv' := [(0, .ref v0), (1, .int v1), (2, .ref v2), (3, .ref v3), (4, .int v4)]) (st' := [.ref v3]) rfl ?_
  refine x_cv1 (As := []) (rest := []) Value.int e rfl rfl rfl rfl rfl rfl (fun h => d_Box_innerWidth h ⟨rfl, rfl⟩) (fun z2 e => ?_)
  refine wp_p (j := J_Layout_measureBlock) 2 (pc' := 56) (lv' := [(0, .ref v0), (1, .int v1), (2, .ref v2), (3, .ref v3), (4, .int v4)]) (st' := [.ref v2, .int 2, .int z2]) rfl ?_
  refine x_gI e rfl rfl fd_3_6 rfl (fun z3 e => ?_)
  refine wp_p (j := J_Layout_measureBlock) 4 (pc' := 65) (lv' := [(5, .int (z2 - (2 * z3))), (0, .ref v0), (1, .int v1), (2, .ref v2), (3, .ref v3), (4, .int v4)]) (st' := [.int v4]) rfl ?_
  refine z_eq e rfl (fun e => ?_) (fun e => ?_)
  · refine wp_p (j := J_Layout_measureBlock) 1 (pc' := 90) (lv' := [(5, .int (z2 - (2 * z3))), (0, .ref v0), (1, .int v1), (2, .ref v2), (3, .ref v3), (4, .int v4)]) (st' := [.ref v2]) rfl ?_
    refine x_gI e rfl rfl fd_3_13 rfl (fun z4 e => ?_)
    refine z_eq e rfl (fun e => ?_) (fun e => ?_)
    · exact wp_lv (lv' := [(0, .ref v0), (1, .int v1), (2, .ref v2), (5, .int (z2 - (2 * z3)))]) rfl ⟨rfl, rfl, rfl, rfl, trivial⟩ (x_Layout_measureBlock_119 e c)
    · refine wp_p (j := J_Layout_measureBlock) 4 (pc' := 101) (lv' := [(5, .int (z2 - (2 * z3))), (0, .ref v0), (1, .int v1), (2, .ref v2), (3, .ref v3), (4, .int v4)]) (st' := [.ref v2, .int v1, .ref v0, .int (z2 - (2 * z3))]) rfl ?_
      refine x_gI e rfl rfl fd_3_11 rfl (fun z5 e => ?_)
      refine x_cv2 (As := [.int v1, .int z5]) (rest := [.int (z2 - (2 * z3))]) Value.int e rfl rfl rfl rfl rfl rfl (fun h => d_Layout_textWidth h ⟨rfl, rfl⟩) (fun z6 g7 e => ?_)
      refine wp_p (j := J_Layout_measureBlock) 2 (pc' := 109) (lv' := [(5, .int (z2 - (2 * z3))), (0, .ref v0), (1, .int v1), (2, .ref v2), (3, .ref v3), (4, .int v4)]) (st' := [.ref v2, .int 2, .int z6, .int (z2 - (2 * z3))]) rfl ?_
      refine x_gI e rfl rfl fd_3_8 rfl (fun z8 e => ?_)
      refine wp_p (j := J_Layout_measureBlock) 2 (pc' := 114) (lv' := [(5, .int (z2 - (2 * z3))), (0, .ref v0), (1, .int v1), (2, .ref v2), (3, .ref v3), (4, .int v4)]) (st' := [.int (z6 + (2 * z8)), .int (z2 - (2 * z3))]) rfl ?_
      refine x_mn rfl rfl ?_
      refine wp_p (j := J_Layout_measureBlock) 1 (pc' := 119) (lv' := [(5, .int (mn (z2 - (2 * z3)) (z6 + (2 * z8)))), (0, .ref v0), (1, .int v1), (2, .ref v2), (3, .ref v3), (4, .int v4)]) (st' := []) rfl ?_
      exact wp_lv (lv' := [(0, .ref v0), (1, .int v1), (2, .ref v2), (5, .int (mn (z2 - (2 * z3)) (z6 + (2 * z8))))]) rfl ⟨rfl, rfl, rfl, rfl, trivial⟩ (x_Layout_measureBlock_119 e c)
  · refine wp_p (j := J_Layout_measureBlock) 3 (pc' := 71) (lv' := [(5, .int (z2 - (2 * z3))), (0, .ref v0), (1, .int v1), (2, .ref v2), (3, .ref v3), (4, .int v4)]) (st' := [.ref v2, .int v1, .ref v0]) rfl ?_
    refine x_gI e rfl rfl fd_3_11 rfl (fun z9 e => ?_)
    refine x_cv2 (As := [.int v1, .int z9]) (rest := []) Value.int e rfl rfl rfl rfl rfl rfl (fun h => d_Layout_textWidth h ⟨rfl, rfl⟩) (fun z10 g11 e => ?_)
    refine wp_p (j := J_Layout_measureBlock) 2 (pc' := 79) (lv' := [(5, .int (z2 - (2 * z3))), (0, .ref v0), (1, .int v1), (2, .ref v2), (3, .ref v3), (4, .int v4)]) (st' := [.ref v2, .int 2, .int z10]) rfl ?_
    refine x_gI e rfl rfl fd_3_8 rfl (fun z12 e => ?_)
    refine wp_p (j := J_Layout_measureBlock) 4 (pc' := 119) (lv' := [(5, .int (z10 + (2 * z12))), (0, .ref v0), (1, .int v1), (2, .ref v2), (3, .ref v3), (4, .int v4)]) (st' := []) rfl ?_
    exact wp_lv (lv' := [(0, .ref v0), (1, .int v1), (2, .ref v2), (5, .int (z10 + (2 * z12)))]) rfl ⟨rfl, rfl, rfl, rfl, trivial⟩ (x_Layout_measureBlock_119 e c)
noncomputable def k_Layout_measureBlock_28 (v0 : Nat) (v1 : Int32) (v2 : Nat) (v3 : Nat) (w0 : Int32) (g : g_S) : Option g_S :=
  if w0 = 0 then
    (vc g 105 v0 (M_Layout_look v0 v1 10 g)).bind fun z1 =>
    k_Layout_measureBlock_47 v0 v1 v2 v3 w0 z1 v2 g
  else
    k_Layout_measureBlock_47 v0 v1 v2 v3 w0 0 v2 g
set_option maxRecDepth 20000 in
theorem x_Layout_measureBlock_28 {L : Nat} {xs : Nat → Int32} {Q : Option Value → ab_H → Prop} {v0 : Nat} {v1 : Int32} {v2 : Nat} {v3 : Nat} {w0 : Int32} {g : g_S} {out : g_S} (e : k_Layout_measureBlock_28 v0 v1 v2 v3 w0 g = some out) (c : Q none (hp out)) : wp (ab_ext L xs) J_Layout_measureBlock 28 [(0, .ref v0), (1, .int v1), (2, .ref v2), (3, .ref v3)] [.int w0] (hp g) Q := by
  unfold k_Layout_measureBlock_28 at e
  refine wp_p (j := J_Layout_measureBlock) 3 (pc' := 33) (lv' := [(4, .int w0), (0, .ref v0), (1, .int v1), (2, .ref v2), (3, .ref v3)]) (st' := [.int w0, .ref v2]) rfl ?_
  refine z_eq e rfl (fun e => ?_) (fun e => ?_)
  · refine wp_p (j := J_Layout_measureBlock) 3 (pc' := 44) (lv' := [(4, .int w0), (0, .ref v0), (1, .int v1), (2, .ref v2), (3, .ref v3)]) (st' := [.int 10, .int v1, .ref v0, .ref v2]) rfl ?_
    refine x_cv1 (As := [.int v1, .int 10]) (rest := [.ref v2]) Value.int e rfl rfl rfl rfl rfl rfl (fun h => d_Layout_look h ⟨rfl, rfl⟩) (fun z1 e => ?_)
    exact wp_lv (lv' := [(0, .ref v0), (1, .int v1), (2, .ref v2), (3, .ref v3), (4, .int w0)]) rfl ⟨rfl, rfl, rfl, rfl, rfl, trivial⟩ (x_Layout_measureBlock_47 e c)
  · refine wp_p (j := J_Layout_measureBlock) 2 (pc' := 47) (lv' := [(4, .int w0), (0, .ref v0), (1, .int v1), (2, .ref v2), (3, .ref v3)]) (st' := [.int 0, .ref v2]) rfl ?_
    exact wp_lv (lv' := [(0, .ref v0), (1, .int v1), (2, .ref v2), (3, .ref v3), (4, .int w0)]) rfl ⟨rfl, rfl, rfl, rfl, rfl, trivial⟩ (x_Layout_measureBlock_47 e c)
noncomputable def M_Layout_measureBlock (v0 : Nat) (v1 : Int32) (v2 : Nat) (g : g_S) : Option g_S :=
  (rQ g 105 v0 2).bind fun z1 =>
  (rI g 103 v2 1).bind fun z2 =>
  (aQ g 8 z1 z2).bind fun z3 =>
  (rI g 103 v2 1).bind fun z4 =>
  (vc g 105 v0 (M_Layout_look v0 z4 0 g)).bind fun z5 =>
  if z5 = 3 then
    k_Layout_measureBlock_28 v0 v1 v2 z3 1 g
  else
    k_Layout_measureBlock_28 v0 v1 v2 z3 0 g
set_option maxRecDepth 20000 in
theorem d_Layout_measureBlock {L : Nat} {xs : Nat → Int32} {Q : Option Value → ab_H → Prop} {v0 : Nat} {v1 : Int32} {v2 : Nat} {g : g_S} {out : g_S} (e : M_Layout_measureBlock v0 v1 v2 g = some out) (c : Q none (hp out)) : mw (ab_ext L xs) J_Layout_measureBlock [.ref v0, .int v1, .ref v2] (hp g) Q := by
  unfold M_Layout_measureBlock at e
  refine wp_p (j := J_Layout_measureBlock) 1 (pc' := 1) (lv' := [(0, .ref v0), (1, .int v1), (2, .ref v2)]) (st' := [.ref v0]) rfl ?_
  refine x_gQ e rfl rfl fd_5_2 rfl (fun z1 e => ?_)
  refine wp_p (j := J_Layout_measureBlock) 1 (pc' := 5) (lv' := [(0, .ref v0), (1, .int v1), (2, .ref v2)]) (st' := [.ref v2, .ref z1]) rfl ?_
  refine x_gI e rfl rfl fd_3_1 rfl (fun z2 e => ?_)
  refine x_aQ e rfl rfl rfl (fun z3 e => ?_)
  refine wp_p (j := J_Layout_measureBlock) 3 (pc' := 12) (lv' := [(3, .ref z3), (0, .ref v0), (1, .int v1), (2, .ref v2)]) (st' := [.ref v2, .ref v0]) rfl ?_
  refine x_gI e rfl rfl fd_3_1 rfl (fun z4 e => ?_)
  refine wp_p (j := J_Layout_measureBlock) 1 (pc' := 16) (lv' := [(3, .ref z3), (0, .ref v0), (1, .int v1), (2, .ref v2)]) (st' := [.int 0, .int z4, .ref v0]) rfl ?_
  refine x_cv1 (As := [.int z4, .int 0]) (rest := []) Value.int e rfl rfl rfl rfl rfl rfl (fun h => d_Layout_look h ⟨rfl, rfl⟩) (fun z5 e => ?_)
  refine wp_p (j := J_Layout_measureBlock) 1 (pc' := 20) (lv' := [(3, .ref z3), (0, .ref v0), (1, .int v1), (2, .ref v2)]) (st' := [.int 3, .int z5]) rfl ?_
  refine x_ne e rfl (fun e => ?_) (fun e => ?_)
  · refine wp_p (j := J_Layout_measureBlock) 2 (pc' := 28) (lv' := [(3, .ref z3), (0, .ref v0), (1, .int v1), (2, .ref v2)]) (st' := [.int 1]) rfl ?_
    exact wp_lv (lv' := [(0, .ref v0), (1, .int v1), (2, .ref v2), (3, .ref z3)]) rfl ⟨rfl, rfl, rfl, rfl, trivial⟩ (x_Layout_measureBlock_28 e c)
  · refine wp_p (j := J_Layout_measureBlock) 1 (pc' := 28) (lv' := [(3, .ref z3), (0, .ref v0), (1, .int v1), (2, .ref v2)]) (st' := [.int 0]) rfl ?_
    exact wp_lv (lv' := [(0, .ref v0), (1, .int v1), (2, .ref v2), (3, .ref z3)]) rfl ⟨rfl, rfl, rfl, rfl, trivial⟩ (x_Layout_measureBlock_28 e c)
noncomputable def k_Layout_measure_212 (v0 : Nat) (v1 : Int32) (v2 : Nat) (v3 : Nat) (w0 : Int32) (w1 : Nat) (g : g_S) : Option g_S :=
  (wI g 103 w1 1 w0).bind fun g1 =>
  (rI g1 107 v2 0).bind fun z2 =>
  if z2 = 17 then
    (rQ g1 107 v2 11).bind fun z3 =>
    (vc g1 105 v0 (M_Layout_listWords v0 v1 z3 v3 g1)).bind fun g4 =>
    some g4
  else
    (rI g1 103 v3 0).bind fun z5 =>
    if z5 = 2 then
      (rI g1 107 v2 0).bind fun z6 =>
      (vc g1 105 v0 (M_Layout_measurePiece v0 v1 z6 v3 g1)).bind fun g7 =>
      some g7
    else
      (rI g1 103 v3 0).bind fun z8 =>
      if z8 = 1 then
        (vc g1 105 v0 (M_Layout_measureBlock v0 v1 v3 g1)).bind fun g9 =>
        some g9
      else
        some g1
set_option maxRecDepth 20000 in
theorem x_Layout_measure_212 {L : Nat} {xs : Nat → Int32} {Q : Option Value → ab_H → Prop} {v0 : Nat} {v1 : Int32} {v2 : Nat} {v3 : Nat} {w0 : Int32} {w1 : Nat} {g : g_S} {out : g_S} (e : k_Layout_measure_212 v0 v1 v2 v3 w0 w1 g = some out) (c : Q none (hp out)) : wp (ab_ext L xs) J_Layout_measure 212 [(0, .ref v0), (1, .int v1), (2, .ref v2), (3, .ref v3)] [.int w0, .ref w1] (hp g) Q := by
  unfold k_Layout_measure_212 at e
  refine x_pI e rfl rfl fw_3_1 rfl (fun g1 e => ?_)
  refine wp_p (j := J_Layout_measure) 1 (pc' := 216) (lv' := [(0, .ref v0), (1, .int v1), (2, .ref v2), (3, .ref v3)]) (st' := [.ref v2]) rfl ?_
  refine x_gI e rfl rfl fd_7_0 rfl (fun z2 e => ?_)
  refine wp_p (j := J_Layout_measure) 1 (pc' := 221) (lv' := [(0, .ref v0), (1, .int v1), (2, .ref v2), (3, .ref v3)]) (st' := [.int 17, .int z2]) rfl ?_
  refine x_ne e rfl (fun e => ?_) (fun e => ?_)
  · refine wp_p (j := J_Layout_measure) 3 (pc' := 227) (lv' := [(0, .ref v0), (1, .int v1), (2, .ref v2), (3, .ref v3)]) (st' := [.ref v2, .int v1, .ref v0]) rfl ?_
    refine x_gQ e rfl rfl fd_7_11 rfl (fun z3 e => ?_)
    refine wp_p (j := J_Layout_measure) 1 (pc' := 231) (lv' := [(0, .ref v0), (1, .int v1), (2, .ref v2), (3, .ref v3)]) (st' := [.ref v3, .ref z3, .int v1, .ref v0]) rfl ?_
    refine x_cv0 (As := [.int v1, .ref z3, .ref v3]) (rest := []) e rfl rfl rfl rfl rfl rfl (fun h => d_Layout_listWords h ⟨rfl, rfl⟩) (fun g4 e => ?_)
    refine wp_p (j := J_Layout_measure) 1 (pc' := 272) (lv' := [(0, .ref v0), (1, .int v1), (2, .ref v2), (3, .ref v3)]) (st' := []) rfl ?_
    have e := Option.some.inj e; subst e; exact wp_vret rfl rfl c
  · refine wp_p (j := J_Layout_measure) 1 (pc' := 238) (lv' := [(0, .ref v0), (1, .int v1), (2, .ref v2), (3, .ref v3)]) (st' := [.ref v3]) rfl ?_
    refine x_gI e rfl rfl fd_3_0 rfl (fun z5 e => ?_)
    refine wp_p (j := J_Layout_measure) 1 (pc' := 242) (lv' := [(0, .ref v0), (1, .int v1), (2, .ref v2), (3, .ref v3)]) (st' := [.int 2, .int z5]) rfl ?_
    refine x_ne e rfl (fun e => ?_) (fun e => ?_)
    · refine wp_p (j := J_Layout_measure) 3 (pc' := 248) (lv' := [(0, .ref v0), (1, .int v1), (2, .ref v2), (3, .ref v3)]) (st' := [.ref v2, .int v1, .ref v0]) rfl ?_
      refine x_gI e rfl rfl fd_7_0 rfl (fun z6 e => ?_)
      refine wp_p (j := J_Layout_measure) 1 (pc' := 252) (lv' := [(0, .ref v0), (1, .int v1), (2, .ref v2), (3, .ref v3)]) (st' := [.ref v3, .int z6, .int v1, .ref v0]) rfl ?_
      refine x_cv0 (As := [.int v1, .int z6, .ref v3]) (rest := []) e rfl rfl rfl rfl rfl rfl (fun h => d_Layout_measurePiece h ⟨rfl, rfl⟩) (fun g7 e => ?_)
      refine wp_p (j := J_Layout_measure) 1 (pc' := 272) (lv' := [(0, .ref v0), (1, .int v1), (2, .ref v2), (3, .ref v3)]) (st' := []) rfl ?_
      have e := Option.some.inj e; subst e; exact wp_vret rfl rfl c
    · refine wp_p (j := J_Layout_measure) 1 (pc' := 259) (lv' := [(0, .ref v0), (1, .int v1), (2, .ref v2), (3, .ref v3)]) (st' := [.ref v3]) rfl ?_
      refine x_gI e rfl rfl fd_3_0 rfl (fun z8 e => ?_)
      refine wp_p (j := J_Layout_measure) 1 (pc' := 263) (lv' := [(0, .ref v0), (1, .int v1), (2, .ref v2), (3, .ref v3)]) (st' := [.int 1, .int z8]) rfl ?_
      refine x_ne e rfl (fun e => ?_) (fun e => ?_)
      · refine wp_p (j := J_Layout_measure) 3 (pc' := 269) (lv' := [(0, .ref v0), (1, .int v1), (2, .ref v2), (3, .ref v3)]) (st' := [.ref v3, .int v1, .ref v0]) rfl ?_
        refine x_cv0 (As := [.int v1, .ref v3]) (rest := []) e rfl rfl rfl rfl rfl rfl (fun h => d_Layout_measureBlock h ⟨rfl, rfl⟩) (fun g9 e => ?_)
        have e := Option.some.inj e; subst e; exact wp_vret rfl rfl c
      · have e := Option.some.inj e; subst e; exact wp_vret rfl rfl c
noncomputable def k_Layout_measure_52 (v0 : Nat) (v1 : Int32) (v2 : Nat) (v3 : Nat) (w0 : Int32) (g : g_S) : Option g_S :=
  (vc g 105 v0 (M_Layout_look v0 w0 3 g)).bind fun z1 =>
  (wI g 103 v3 6 z1).bind fun g2 =>
  (vc g2 105 v0 (M_Layout_look v0 w0 5 g2)).bind fun z3 =>
  (wI g2 103 v3 7 z3).bind fun g4 =>
  (rI g4 103 v3 7).bind fun z5 =>
  (vc g4 105 v0 (M_Layout_look v0 w0 4 g4)).bind fun z6 =>
  (wI g4 103 v3 8 (z5 + z6)).bind fun g7 =>
  (vc g7 105 v0 (M_Layout_look v0 w0 1 g7)).bind fun z8 =>
  (wI g7 103 v3 9 z8).bind fun g9 =>
  (vc g9 105 v0 (M_Layout_look v0 w0 2 g9)).bind fun z10 =>
  (wI g9 103 v3 10 z10).bind fun g11 =>
  (vc g11 105 v0 (M_Layout_look v0 w0 8 g11)).bind fun z12 =>
  (wI g11 103 v3 11 z12).bind fun g13 =>
  (vc g13 105 v0 (M_Layout_look v0 w0 9 g13)).bind fun z14 =>
  (wI g13 103 v3 12 z14).bind fun g15 =>
  (wI g15 103 v3 13 0).bind fun g16 =>
  (wI g16 103 v3 19 0).bind fun g17 =>
  (wI g17 103 v3 2 0).bind fun g18 =>
  (wI g18 103 v3 3 0).bind fun g19 =>
  if v1 = 0 then
    (wI g19 103 v3 1 (-1)).bind fun g20 =>
    (rI g20 105 v0 3).bind fun z21 =>
    (wI g20 103 v3 4 z21).bind fun g22 =>
    some g22
  else
    (rQ g19 105 v0 2).bind fun z23 =>
    (rI g19 107 v2 2).bind fun z24 =>
    (aQ g19 8 z23 z24).bind fun z25 =>
    (rI g19 103 z25 0).bind fun z26 =>
    if z26 = 1 then
      (rI g19 107 v2 2).bind fun z27 =>
      k_Layout_measure_212 v0 v1 v2 v3 z27 v3 g19
    else
      (rQ g19 105 v0 2).bind fun z28 =>
      (rI g19 107 v2 2).bind fun z29 =>
      (aQ g19 8 z28 z29).bind fun z30 =>
      (rI g19 103 z30 1).bind fun z31 =>
      k_Layout_measure_212 v0 v1 v2 v3 z31 v3 g19
set_option maxRecDepth 20000 in
theorem x_Layout_measure_52 {L : Nat} {xs : Nat → Int32} {Q : Option Value → ab_H → Prop} {v0 : Nat} {v1 : Int32} {v2 : Nat} {v3 : Nat} {w0 : Int32} {g : g_S} {out : g_S} (e : k_Layout_measure_52 v0 v1 v2 v3 w0 g = some out) (c : Q none (hp out)) : wp (ab_ext L xs) J_Layout_measure 52 [(0, .ref v0), (1, .int v1), (2, .ref v2), (3, .ref v3)] [.int w0] (hp g) Q := by
  unfold k_Layout_measure_52 at e
  refine wp_p (j := J_Layout_measure) 5 (pc' := 59) (lv' := [(4, .int w0), (0, .ref v0), (1, .int v1), (2, .ref v2), (3, .ref v3)]) (st' := [.int 3, .int w0, .ref v0, .ref v3]) rfl ?_
  refine x_cv1 (As := [.int w0, .int 3]) (rest := [.ref v3]) Value.int e rfl rfl rfl rfl rfl rfl (fun h => d_Layout_look h ⟨rfl, rfl⟩) (fun z1 e => ?_)
  refine x_pI e rfl rfl fw_3_6 rfl (fun g2 e => ?_)
  refine wp_p (j := J_Layout_measure) 4 (pc' := 70) (lv' := [(4, .int w0), (0, .ref v0), (1, .int v1), (2, .ref v2), (3, .ref v3)]) (st' := [.int 5, .int w0, .ref v0, .ref v3]) rfl ?_
  refine x_cv1 (As := [.int w0, .int 5]) (rest := [.ref v3]) Value.int e rfl rfl rfl rfl rfl rfl (fun h => d_Layout_look h ⟨rfl, rfl⟩) (fun z3 e => ?_)
  refine x_pI e rfl rfl fw_3_7 rfl (fun g4 e => ?_)
  refine wp_p (j := J_Layout_measure) 2 (pc' := 78) (lv' := [(4, .int w0), (0, .ref v0), (1, .int v1), (2, .ref v2), (3, .ref v3)]) (st' := [.ref v3, .ref v3]) rfl ?_
  refine x_gI e rfl rfl fd_3_7 rfl (fun z5 e => ?_)
  refine wp_p (j := J_Layout_measure) 3 (pc' := 85) (lv' := [(4, .int w0), (0, .ref v0), (1, .int v1), (2, .ref v2), (3, .ref v3)]) (st' := [.int 4, .int w0, .ref v0, .int z5, .ref v3]) rfl ?_
  refine x_cv1 (As := [.int w0, .int 4]) (rest := [.int z5, .ref v3]) Value.int e rfl rfl rfl rfl rfl rfl (fun h => d_Layout_look h ⟨rfl, rfl⟩) (fun z6 e => ?_)
  refine wp_p (j := J_Layout_measure) 1 (pc' := 89) (lv' := [(4, .int w0), (0, .ref v0), (1, .int v1), (2, .ref v2), (3, .ref v3)]) (st' := [.int (z5 + z6), .ref v3]) rfl ?_
  refine x_pI e rfl rfl fw_3_8 rfl (fun g7 e => ?_)
  refine wp_p (j := J_Layout_measure) 4 (pc' := 97) (lv' := [(4, .int w0), (0, .ref v0), (1, .int v1), (2, .ref v2), (3, .ref v3)]) (st' := [.int 1, .int w0, .ref v0, .ref v3]) rfl ?_
  refine x_cv1 (As := [.int w0, .int 1]) (rest := [.ref v3]) Value.int e rfl rfl rfl rfl rfl rfl (fun h => d_Layout_look h ⟨rfl, rfl⟩) (fun z8 e => ?_)
  refine x_pI e rfl rfl fw_3_9 rfl (fun g9 e => ?_)
  refine wp_p (j := J_Layout_measure) 4 (pc' := 108) (lv' := [(4, .int w0), (0, .ref v0), (1, .int v1), (2, .ref v2), (3, .ref v3)]) (st' := [.int 2, .int w0, .ref v0, .ref v3]) rfl ?_
  refine x_cv1 (As := [.int w0, .int 2]) (rest := [.ref v3]) Value.int e rfl rfl rfl rfl rfl rfl (fun h => d_Layout_look h ⟨rfl, rfl⟩) (fun z10 e => ?_)
  refine x_pI e rfl rfl fw_3_10 rfl (fun g11 e => ?_)
  refine wp_p (j := J_Layout_measure) 4 (pc' := 120) (lv' := [(4, .int w0), (0, .ref v0), (1, .int v1), (2, .ref v2), (3, .ref v3)]) (st' := [.int 8, .int w0, .ref v0, .ref v3]) rfl ?_
  refine x_cv1 (As := [.int w0, .int 8]) (rest := [.ref v3]) Value.int e rfl rfl rfl rfl rfl rfl (fun h => d_Layout_look h ⟨rfl, rfl⟩) (fun z12 e => ?_)
  refine x_pI e rfl rfl fw_3_11 rfl (fun g13 e => ?_)
  refine wp_p (j := J_Layout_measure) 4 (pc' := 132) (lv' := [(4, .int w0), (0, .ref v0), (1, .int v1), (2, .ref v2), (3, .ref v3)]) (st' := [.int 9, .int w0, .ref v0, .ref v3]) rfl ?_
  refine x_cv1 (As := [.int w0, .int 9]) (rest := [.ref v3]) Value.int e rfl rfl rfl rfl rfl rfl (fun h => d_Layout_look h ⟨rfl, rfl⟩) (fun z14 e => ?_)
  refine x_pI e rfl rfl fw_3_12 rfl (fun g15 e => ?_)
  refine wp_p (j := J_Layout_measure) 2 (pc' := 140) (lv' := [(4, .int w0), (0, .ref v0), (1, .int v1), (2, .ref v2), (3, .ref v3)]) (st' := [.int 0, .ref v3]) rfl ?_
  refine x_pI e rfl rfl fw_3_13 rfl (fun g16 e => ?_)
  refine wp_p (j := J_Layout_measure) 2 (pc' := 145) (lv' := [(4, .int w0), (0, .ref v0), (1, .int v1), (2, .ref v2), (3, .ref v3)]) (st' := [.int 0, .ref v3]) rfl ?_
  refine x_pI e rfl rfl fw_3_19 rfl (fun g17 e => ?_)
  refine wp_p (j := J_Layout_measure) 2 (pc' := 150) (lv' := [(4, .int w0), (0, .ref v0), (1, .int v1), (2, .ref v2), (3, .ref v3)]) (st' := [.int 0, .ref v3]) rfl ?_
  refine x_pI e rfl rfl fw_3_2 rfl (fun g18 e => ?_)
  refine wp_p (j := J_Layout_measure) 2 (pc' := 155) (lv' := [(4, .int w0), (0, .ref v0), (1, .int v1), (2, .ref v2), (3, .ref v3)]) (st' := [.int 0, .ref v3]) rfl ?_
  refine x_pI e rfl rfl fw_3_3 rfl (fun g19 e => ?_)
  refine wp_p (j := J_Layout_measure) 1 (pc' := 159) (lv' := [(4, .int w0), (0, .ref v0), (1, .int v1), (2, .ref v2), (3, .ref v3)]) (st' := [.int v1]) rfl ?_
  refine z_ne e rfl (fun e => ?_) (fun e => ?_)
  · refine wp_p (j := J_Layout_measure) 2 (pc' := 164) (lv' := [(4, .int w0), (0, .ref v0), (1, .int v1), (2, .ref v2), (3, .ref v3)]) (st' := [.int (-1), .ref v3]) rfl ?_
    refine x_pI e rfl rfl fw_3_1 rfl (fun g20 e => ?_)
    refine wp_p (j := J_Layout_measure) 2 (pc' := 169) (lv' := [(4, .int w0), (0, .ref v0), (1, .int v1), (2, .ref v2), (3, .ref v3)]) (st' := [.ref v0, .ref v3]) rfl ?_
    refine x_gI e rfl rfl fd_5_3 rfl (fun z21 e => ?_)
    refine x_pI e rfl rfl fw_3_4 rfl (fun g22 e => ?_)
    have e := Option.some.inj e; subst e; exact wp_vret rfl rfl c
  · refine wp_p (j := J_Layout_measure) 2 (pc' := 178) (lv' := [(4, .int w0), (0, .ref v0), (1, .int v1), (2, .ref v2), (3, .ref v3)]) (st' := [.ref v0, .ref v3]) rfl ?_
    refine x_gQ e rfl rfl fd_5_2 rfl (fun z23 e => ?_)
    refine wp_p (j := J_Layout_measure) 1 (pc' := 182) (lv' := [(4, .int w0), (0, .ref v0), (1, .int v1), (2, .ref v2), (3, .ref v3)]) (st' := [.ref v2, .ref z23, .ref v3]) rfl ?_
    refine x_gI e rfl rfl fd_7_2 rfl (fun z24 e => ?_)
    refine x_aQ e rfl rfl rfl (fun z25 e => ?_)
    refine x_gI e rfl rfl fd_3_0 rfl (fun z26 e => ?_)
    refine wp_p (j := J_Layout_measure) 1 (pc' := 190) (lv' := [(4, .int w0), (0, .ref v0), (1, .int v1), (2, .ref v2), (3, .ref v3)]) (st' := [.int 1, .int z26, .ref v3]) rfl ?_
    refine x_ne e rfl (fun e => ?_) (fun e => ?_)
    · refine wp_p (j := J_Layout_measure) 1 (pc' := 194) (lv' := [(4, .int w0), (0, .ref v0), (1, .int v1), (2, .ref v2), (3, .ref v3)]) (st' := [.ref v2, .ref v3]) rfl ?_
      refine x_gI e rfl rfl fd_7_2 rfl (fun z27 e => ?_)
      refine wp_p (j := J_Layout_measure) 1 (pc' := 212) (lv' := [(4, .int w0), (0, .ref v0), (1, .int v1), (2, .ref v2), (3, .ref v3)]) (st' := [.int z27, .ref v3]) rfl ?_
      exact wp_lv (lv' := [(0, .ref v0), (1, .int v1), (2, .ref v2), (3, .ref v3)]) rfl ⟨rfl, rfl, rfl, rfl, trivial⟩ (x_Layout_measure_212 e c)
    · refine wp_p (j := J_Layout_measure) 1 (pc' := 201) (lv' := [(4, .int w0), (0, .ref v0), (1, .int v1), (2, .ref v2), (3, .ref v3)]) (st' := [.ref v0, .ref v3]) rfl ?_
      refine x_gQ e rfl rfl fd_5_2 rfl (fun z28 e => ?_)
      refine wp_p (j := J_Layout_measure) 1 (pc' := 205) (lv' := [(4, .int w0), (0, .ref v0), (1, .int v1), (2, .ref v2), (3, .ref v3)]) (st' := [.ref v2, .ref z28, .ref v3]) rfl ?_
      refine x_gI e rfl rfl fd_7_2 rfl (fun z29 e => ?_)
      refine x_aQ e rfl rfl rfl (fun z30 e => ?_)
      refine x_gI e rfl rfl fd_3_1 rfl (fun z31 e => ?_)
      exact wp_lv (lv' := [(0, .ref v0), (1, .int v1), (2, .ref v2), (3, .ref v3)]) rfl ⟨rfl, rfl, rfl, rfl, trivial⟩ (x_Layout_measure_212 e c)
noncomputable def M_Layout_measure (v0 : Nat) (v1 : Int32) (g : g_S) : Option g_S :=
  (rQ g 105 v0 0).bind fun z1 =>
  (rQ g 110 z1 0).bind fun z2 =>
  (aQ g 5 z2 v1).bind fun z3 =>
  (rQ g 105 v0 2).bind fun z4 =>
  (aQ g 8 z4 v1).bind fun z5 =>
  (vc g 105 v0 (M_Layout_kindOf v0 v1 z3 g)).bind fun z6 =>
  (wI g 103 z5 0 z6).bind fun g7 =>
  (rI g7 103 z5 0).bind fun z8 =>
  if z8 = 0 then
    some g7
  else
    (rI g7 107 z3 0).bind fun z9 =>
    if z9 = 17 then
      (rI g7 107 z3 2).bind fun z10 =>
      k_Layout_measure_52 v0 v1 z3 z5 z10 g7
    else
      k_Layout_measure_52 v0 v1 z3 z5 v1 g7
set_option maxRecDepth 20000 in
theorem d_Layout_measure {L : Nat} {xs : Nat → Int32} {Q : Option Value → ab_H → Prop} {v0 : Nat} {v1 : Int32} {g : g_S} {out : g_S} (e : M_Layout_measure v0 v1 g = some out) (c : Q none (hp out)) : mw (ab_ext L xs) J_Layout_measure [.ref v0, .int v1] (hp g) Q := by
  unfold M_Layout_measure at e
  refine wp_p (j := J_Layout_measure) 1 (pc' := 1) (lv' := [(0, .ref v0), (1, .int v1)]) (st' := [.ref v0]) rfl ?_
  refine x_gQ e rfl rfl fd_5_0 rfl (fun z1 e => ?_)
  refine x_gQ e rfl rfl fd_10_0 rfl (fun z2 e => ?_)
  refine wp_p (j := J_Layout_measure) 1 (pc' := 8) (lv' := [(0, .ref v0), (1, .int v1)]) (st' := [.int v1, .ref z2]) rfl ?_
  refine x_aQ e rfl rfl rfl (fun z3 e => ?_)
  refine wp_p (j := J_Layout_measure) 2 (pc' := 11) (lv' := [(2, .ref z3), (0, .ref v0), (1, .int v1)]) (st' := [.ref v0]) rfl ?_
  refine x_gQ e rfl rfl fd_5_2 rfl (fun z4 e => ?_)
  refine wp_p (j := J_Layout_measure) 1 (pc' := 15) (lv' := [(2, .ref z3), (0, .ref v0), (1, .int v1)]) (st' := [.int v1, .ref z4]) rfl ?_
  refine x_aQ e rfl rfl rfl (fun z5 e => ?_)
  refine wp_p (j := J_Layout_measure) 5 (pc' := 21) (lv' := [(3, .ref z5), (2, .ref z3), (0, .ref v0), (1, .int v1)]) (st' := [.ref z3, .int v1, .ref v0, .ref z5]) rfl ?_
  refine x_cv1 (As := [.int v1, .ref z3]) (rest := [.ref z5]) Value.int e rfl rfl rfl rfl rfl rfl (fun h => d_Layout_kindOf h ⟨rfl, rfl⟩) (fun z6 e => ?_)
  refine x_pI e rfl rfl fw_3_0 rfl (fun g7 e => ?_)
  refine wp_p (j := J_Layout_measure) 1 (pc' := 28) (lv' := [(3, .ref z5), (2, .ref z3), (0, .ref v0), (1, .int v1)]) (st' := [.ref z5]) rfl ?_
  refine x_gI e rfl rfl fd_3_0 rfl (fun z8 e => ?_)
  refine z_ne e rfl (fun e => ?_) (fun e => ?_)
  · have e := Option.some.inj e; subst e; exact wp_vret rfl rfl c
  · refine wp_p (j := J_Layout_measure) 1 (pc' := 36) (lv' := [(3, .ref z5), (2, .ref z3), (0, .ref v0), (1, .int v1)]) (st' := [.ref z3]) rfl ?_
    refine x_gI e rfl rfl fd_7_0 rfl (fun z9 e => ?_)
    refine wp_p (j := J_Layout_measure) 1 (pc' := 41) (lv' := [(3, .ref z5), (2, .ref z3), (0, .ref v0), (1, .int v1)]) (st' := [.int 17, .int z9]) rfl ?_
    refine x_ne e rfl (fun e => ?_) (fun e => ?_)
    · refine wp_p (j := J_Layout_measure) 1 (pc' := 45) (lv' := [(3, .ref z5), (2, .ref z3), (0, .ref v0), (1, .int v1)]) (st' := [.ref z3]) rfl ?_
      refine x_gI e rfl rfl fd_7_2 rfl (fun z10 e => ?_)
      refine wp_p (j := J_Layout_measure) 1 (pc' := 52) (lv' := [(3, .ref z5), (2, .ref z3), (0, .ref v0), (1, .int v1)]) (st' := [.int z10]) rfl ?_
      exact wp_lv (lv' := [(0, .ref v0), (1, .int v1), (2, .ref z3), (3, .ref z5)]) rfl ⟨rfl, rfl, rfl, rfl, trivial⟩ (x_Layout_measure_52 e c)
    · refine wp_p (j := J_Layout_measure) 1 (pc' := 52) (lv' := [(3, .ref z5), (2, .ref z3), (0, .ref v0), (1, .int v1)]) (st' := [.int v1]) rfl ?_
      exact wp_lv (lv' := [(0, .ref v0), (1, .int v1), (2, .ref z3), (3, .ref z5)]) rfl ⟨rfl, rfl, rfl, rfl, trivial⟩ (x_Layout_measure_52 e c)
noncomputable def M_Box_isBlockInFlow (v0 : Nat) (g : g_S) : Option Int32 :=
  (rI g 103 v0 0).bind fun z1 =>
  if z1 = 1 then
    (rI g 103 v0 13).bind fun z2 =>
    if z2 = 0 then
      some 1
    else
      some 0
  else
    some 0
set_option maxRecDepth 20000 in
theorem d_Box_isBlockInFlow {L : Nat} {xs : Nat → Int32} {Q : Option Value → ab_H → Prop} {v0 : Nat} {g : g_S} {out : Int32} (e : M_Box_isBlockInFlow v0 g = some out) (c : Q (some (.int out)) (hp g)) : mw (ab_ext L xs) J_Box_isBlockInFlow [.ref v0] (hp g) Q := by
  unfold M_Box_isBlockInFlow at e
  refine wp_p (j := J_Box_isBlockInFlow) 1 (pc' := 1) (lv' := [(0, .ref v0)]) (st' := [.ref v0]) rfl ?_
  refine x_gI e rfl rfl fd_3_0 rfl (fun z1 e => ?_)
  refine wp_p (j := J_Box_isBlockInFlow) 1 (pc' := 5) (lv' := [(0, .ref v0)]) (st' := [.int 1, .int z1]) rfl ?_
  refine x_ne e rfl (fun e => ?_) (fun e => ?_)
  · refine wp_p (j := J_Box_isBlockInFlow) 1 (pc' := 9) (lv' := [(0, .ref v0)]) (st' := [.ref v0]) rfl ?_
    refine x_gI e rfl rfl fd_3_13 rfl (fun z2 e => ?_)
    refine z_ne e rfl (fun e => ?_) (fun e => ?_)
    · refine wp_p (j := J_Box_isBlockInFlow) 2 (pc' := 20) (lv' := [(0, .ref v0)]) (st' := [.int 1]) rfl ?_
      have e := Option.some.inj e; subst e; exact wp_iret (ty := .boolean) rfl rfl (by decide) c
    · refine wp_p (j := J_Box_isBlockInFlow) 1 (pc' := 20) (lv' := [(0, .ref v0)]) (st' := [.int 0]) rfl ?_
      have e := Option.some.inj e; subst e; exact wp_iret (ty := .boolean) rfl rfl (by decide) c
  · refine wp_p (j := J_Box_isBlockInFlow) 1 (pc' := 20) (lv' := [(0, .ref v0)]) (st' := [.int 0]) rfl ?_
    have e := Option.some.inj e; subst e; exact wp_iret (ty := .boolean) rfl rfl (by decide) c
def cL_Layout_joinMargins_107 (L : Nat) (xs : Nat → Int32) (Q : Option Value → ab_H → Prop) (v0 : Nat) (v1 : Int32) (v3 : Nat) (g : g_S) (out : (Int32 × Int32 × Int32) ⊕ (Int32 × Int32)) : Prop := match out with
  | .inl s => wp (ab_ext L xs) J_Layout_joinMargins 107 [(0, .ref v0), (1, .int v1), (3, .ref v3), (5, .int s.1), (6, .int s.2.1), (7, .int s.2.2)] [] (hp g) Q
  | .inr s => wp (ab_ext L xs) J_Layout_joinMargins 163 [(0, .ref v0), (1, .int v1), (3, .ref v3), (5, .int s.1), (6, .int s.2)] [] (hp g) Q
noncomputable def k_Layout_joinMargins_145 (v0 : Nat) (v1 : Int32) (v3 : Nat) (v5 : Int32) (v6 : Int32) (v7 : Int32) (g : g_S) : Option ((Int32 × Int32 × Int32) ⊕ (Int32 × Int32)) :=
  (rQ g 105 v0 0).bind fun z1 =>
  (rQ g 110 z1 0).bind fun z2 =>
  (aQ g 5 z2 v7).bind fun z3 =>
  (rI g 107 z3 5).bind fun z4 =>
  some (.inl (v5, v6, z4))
set_option maxRecDepth 20000 in
theorem x_Layout_joinMargins_145 {L : Nat} {xs : Nat → Int32} {Q : Option Value → ab_H → Prop} {v0 : Nat} {v1 : Int32} {v3 : Nat} {v5 : Int32} {v6 : Int32} {v7 : Int32} {g : g_S} {out : (Int32 × Int32 × Int32) ⊕ (Int32 × Int32)} (e : k_Layout_joinMargins_145 v0 v1 v3 v5 v6 v7 g = some out) (c : cL_Layout_joinMargins_107 L xs Q v0 v1 v3 g out) : wp (ab_ext L xs) J_Layout_joinMargins 145 [(0, .ref v0), (1, .int v1), (3, .ref v3), (5, .int v5), (6, .int v6), (7, .int v7)] [] (hp g) Q := by
  unfold k_Layout_joinMargins_145 at e
  refine wp_p (j := J_Layout_joinMargins) 1 (pc' := 146) (lv' := [(0, .ref v0), (1, .int v1), (3, .ref v3), (5, .int v5), (6, .int v6), (7, .int v7)]) (st' := [.ref v0]) rfl ?_
  refine x_gQ e rfl rfl fd_5_0 rfl (fun z1 e => ?_)
  refine x_gQ e rfl rfl fd_10_0 rfl (fun z2 e => ?_)
  refine wp_p (j := J_Layout_joinMargins) 1 (pc' := 154) (lv' := [(0, .ref v0), (1, .int v1), (3, .ref v3), (5, .int v5), (6, .int v6), (7, .int v7)]) (st' := [.int v7, .ref z2]) rfl ?_
  refine x_aQ e rfl rfl rfl (fun z3 e => ?_)
  refine x_gI e rfl rfl fd_7_5 rfl (fun z4 e => ?_)
  refine wp_p (j := J_Layout_joinMargins) 2 (pc' := 107) (lv' := [(7, .int z4), (0, .ref v0), (1, .int v1), (3, .ref v3), (5, .int v5), (6, .int v6)]) (st' := []) rfl ?_
  have e := Option.some.inj e; subst e; exact wp_lv (lv' := [(0, .ref v0), (1, .int v1), (3, .ref v3), (5, .int v5), (6, .int v6), (7, .int z4)]) rfl ⟨rfl, rfl, rfl, rfl, rfl, rfl, trivial⟩ c
noncomputable def k_Layout_joinMargins_139 (v0 : Nat) (v1 : Int32) (v3 : Nat) (v7 : Int32) (w0 : Int32) (g : g_S) : Option ((Int32 × Int32 × Int32) ⊕ (Int32 × Int32)) :=
  k_Layout_joinMargins_145 v0 v1 v3 w0 v7 v7 g
set_option maxRecDepth 20000 in
theorem x_Layout_joinMargins_139 {L : Nat} {xs : Nat → Int32} {Q : Option Value → ab_H → Prop} {v0 : Nat} {v1 : Int32} {v3 : Nat} {v7 : Int32} {w0 : Int32} {g : g_S} {out : (Int32 × Int32 × Int32) ⊕ (Int32 × Int32)} (e : k_Layout_joinMargins_139 v0 v1 v3 v7 w0 g = some out) (c : cL_Layout_joinMargins_107 L xs Q v0 v1 v3 g out) : wp (ab_ext L xs) J_Layout_joinMargins 139 [(0, .ref v0), (1, .int v1), (3, .ref v3), (7, .int v7)] [.int w0] (hp g) Q := by
  unfold k_Layout_joinMargins_139 at e
  refine wp_p (j := J_Layout_joinMargins) 3 (pc' := 145) (lv' := [(6, .int v7), (5, .int w0), (0, .ref v0), (1, .int v1), (3, .ref v3), (7, .int v7)]) (st' := []) rfl ?_
  exact wp_lv (lv' := [(0, .ref v0), (1, .int v1), (3, .ref v3), (5, .int w0), (6, .int v7), (7, .int v7)]) rfl ⟨rfl, rfl, rfl, rfl, rfl, rfl, trivial⟩ (x_Layout_joinMargins_145 e c)
noncomputable def b_Layout_joinMargins_107 (v0 : Nat) (v1 : Int32) (v3 : Nat) (v5 : Int32) (v6 : Int32) (v7 : Int32) (g : g_S) : Option ((Int32 × Int32 × Int32) ⊕ (Int32 × Int32)) :=
  if v7 = (-1) then
    some (.inr (v5, v6))
  else
    (rQ g 105 v0 2).bind fun z1 =>
    (aQ g 8 z1 v7).bind fun z2 =>
    (rI g 103 z2 0).bind fun z3 =>
    if z3 = 0 then
      k_Layout_joinMargins_145 v0 v1 v3 v5 v6 v7 g
    else
      if v5 = (-1) then
        k_Layout_joinMargins_139 v0 v1 v3 v7 v7 g
      else
        k_Layout_joinMargins_139 v0 v1 v3 v7 v5 g
set_option maxRecDepth 20000 in
theorem y_Layout_joinMargins_107 {L : Nat} {xs : Nat → Int32} {Q : Option Value → ab_H → Prop} {v0 : Nat} {v1 : Int32} {v3 : Nat} {v5 : Int32} {v6 : Int32} {v7 : Int32} {g : g_S} {out : (Int32 × Int32 × Int32) ⊕ (Int32 × Int32)} (e : b_Layout_joinMargins_107 v0 v1 v3 v5 v6 v7 g = some out) (c : cL_Layout_joinMargins_107 L xs Q v0 v1 v3 g out) : wp (ab_ext L xs) J_Layout_joinMargins 107 [(0, .ref v0), (1, .int v1), (3, .ref v3), (5, .int v5), (6, .int v6), (7, .int v7)] [] (hp g) Q := by
  unfold b_Layout_joinMargins_107 at e
  refine wp_p (j := J_Layout_joinMargins) 2 (pc' := 110) (lv' := [(0, .ref v0), (1, .int v1), (3, .ref v3), (5, .int v5), (6, .int v6), (7, .int v7)]) (st' := [.int (-1), .int v7]) rfl ?_
  refine x_eq e rfl (fun e => ?_) (fun e => ?_)
  · have e := Option.some.inj e; subst e; exact wp_lv (lv' := [(0, .ref v0), (1, .int v1), (3, .ref v3), (5, .int v5), (6, .int v6)]) rfl ⟨rfl, rfl, rfl, rfl, rfl, trivial⟩ c
  · refine wp_p (j := J_Layout_joinMargins) 1 (pc' := 114) (lv' := [(0, .ref v0), (1, .int v1), (3, .ref v3), (5, .int v5), (6, .int v6), (7, .int v7)]) (st' := [.ref v0]) rfl ?_
    refine x_gQ e rfl rfl fd_5_2 rfl (fun z1 e => ?_)
    refine wp_p (j := J_Layout_joinMargins) 1 (pc' := 119) (lv' := [(0, .ref v0), (1, .int v1), (3, .ref v3), (5, .int v5), (6, .int v6), (7, .int v7)]) (st' := [.int v7, .ref z1]) rfl ?_
    refine x_aQ e rfl rfl rfl (fun z2 e => ?_)
    refine x_gI e rfl rfl fd_3_0 rfl (fun z3 e => ?_)
    refine z_eq e rfl (fun e => ?_) (fun e => ?_)
    · exact wp_lv (lv' := [(0, .ref v0), (1, .int v1), (3, .ref v3), (5, .int v5), (6, .int v6), (7, .int v7)]) rfl ⟨rfl, rfl, rfl, rfl, rfl, rfl, trivial⟩ (x_Layout_joinMargins_145 e c)
    · refine wp_p (j := J_Layout_joinMargins) 2 (pc' := 129) (lv' := [(0, .ref v0), (1, .int v1), (3, .ref v3), (5, .int v5), (6, .int v6), (7, .int v7)]) (st' := [.int (-1), .int v5]) rfl ?_
      refine x_ne e rfl (fun e => ?_) (fun e => ?_)
      · refine wp_p (j := J_Layout_joinMargins) 2 (pc' := 139) (lv' := [(0, .ref v0), (1, .int v1), (3, .ref v3), (5, .int v5), (6, .int v6), (7, .int v7)]) (st' := [.int v7]) rfl ?_
        exact wp_lv (lv' := [(0, .ref v0), (1, .int v1), (3, .ref v3), (7, .int v7)]) rfl ⟨rfl, rfl, rfl, rfl, trivial⟩ (x_Layout_joinMargins_139 e c)
      · refine wp_p (j := J_Layout_joinMargins) 1 (pc' := 139) (lv' := [(0, .ref v0), (1, .int v1), (3, .ref v3), (5, .int v5), (6, .int v6), (7, .int v7)]) (st' := [.int v5]) rfl ?_
        exact wp_lv (lv' := [(0, .ref v0), (1, .int v1), (3, .ref v3), (7, .int v7)]) rfl ⟨rfl, rfl, rfl, rfl, trivial⟩ (x_Layout_joinMargins_139 e c)
noncomputable def L_Layout_joinMargins_107 (v0 : Nat) (v1 : Int32) (v3 : Nat) (v5 : Int32) (v6 : Int32) (v7 : Int32) (g : g_S) : Option (Int32 × Int32) := it (fun s : Int32 × Int32 × Int32 => b_Layout_joinMargins_107 v0 v1 v3 s.1 s.2.1 s.2.2 g) (v5, v6, v7)
theorem l_Layout_joinMargins_107 {L : Nat} {xs : Nat → Int32} {Q : Option Value → ab_H → Prop} {v0 : Nat} {v1 : Int32} {v3 : Nat} {v5 : Int32} {v6 : Int32} {v7 : Int32} {g : g_S} {r : Int32 × Int32} (e : L_Layout_joinMargins_107 v0 v1 v3 v5 v6 v7 g = some r) (c : cL_Layout_joinMargins_107 L xs Q v0 v1 v3 g (.inr r)) : wp (ab_ext L xs) J_Layout_joinMargins 107 [(0, .ref v0), (1, .int v1), (3, .ref v3), (5, .int v5), (6, .int v6), (7, .int v7)] [] (hp g) Q :=
  it_wp (P := fun s : Int32 × Int32 × Int32 => wp (ab_ext L xs) J_Layout_joinMargins 107 [(0, .ref v0), (1, .int v1), (3, .ref v3), (5, .int s.1), (6, .int s.2.1), (7, .int s.2.2)] [] (hp g) Q) (E := fun r => cL_Layout_joinMargins_107 L xs Q v0 v1 v3 g (.inr r)) (fun s out e c => y_Layout_joinMargins_107 e (by cases out <;> exact c)) e c
theorem L_Layout_joinMargins_107_eq (v0 : Nat) (v1 : Int32) (v3 : Nat) (v5 : Int32) (v6 : Int32) (v7 : Int32) (g : g_S) : L_Layout_joinMargins_107 v0 v1 v3 v5 v6 v7 g = itc (b_Layout_joinMargins_107 v0 v1 v3 v5 v6 v7 g) (fun s => L_Layout_joinMargins_107 v0 v1 v3 s.1 s.2.1 s.2.2 g) := it_eq2 (fun s : Int32 × Int32 × Int32 => b_Layout_joinMargins_107 v0 v1 v3 s.1 s.2.1 s.2.2 g) (v5, v6, v7)
noncomputable def k_Layout_joinMargins_208 (v0 : Nat) (v1 : Int32) (v3 : Nat) (v6 : Int32) (g : g_S) : Option g_S :=
  if v6 = (-1) then
    some g
  else
    (rQ g 105 v0 2).bind fun z1 =>
    (aQ g 8 z1 v6).bind fun z2 =>
    (vc g 103 z2 (M_Box_isBlockInFlow z2 g)).bind fun z3 =>
    if z3 = 0 then
      some g
    else
      (vc g 105 v0 (M_Layout_look v0 v1 7 g)).bind fun z4 =>
      if z4 = (-1) then
        (wZ g 103 v3 17 1).bind fun g5 =>
        (rI g5 103 v3 6).bind fun z6 =>
        (rQ g5 105 v0 2).bind fun z7 =>
        (aQ g5 8 z7 v6).bind fun z8 =>
        (rI g5 103 z8 15).bind fun z9 =>
        (wI g5 103 v3 15 (mx z6 z9)).bind fun g10 =>
        some g10
      else
        some g
set_option maxRecDepth 20000 in
theorem x_Layout_joinMargins_208 {L : Nat} {xs : Nat → Int32} {Q : Option Value → ab_H → Prop} {v0 : Nat} {v1 : Int32} {v3 : Nat} {v6 : Int32} {g : g_S} {out : g_S} (e : k_Layout_joinMargins_208 v0 v1 v3 v6 g = some out) (c : Q none (hp out)) : wp (ab_ext L xs) J_Layout_joinMargins 208 [(0, .ref v0), (1, .int v1), (3, .ref v3), (6, .int v6)] [] (hp g) Q := by
  unfold k_Layout_joinMargins_208 at e
  refine wp_p (j := J_Layout_joinMargins) 2 (pc' := 211) (lv' := [(0, .ref v0), (1, .int v1), (3, .ref v3), (6, .int v6)]) (st' := [.int (-1), .int v6]) rfl ?_
  refine x_eq e rfl (fun e => ?_) (fun e => ?_)
  · have e := Option.some.inj e; subst e; exact wp_vret rfl rfl c
  · refine wp_p (j := J_Layout_joinMargins) 1 (pc' := 215) (lv' := [(0, .ref v0), (1, .int v1), (3, .ref v3), (6, .int v6)]) (st' := [.ref v0]) rfl ?_
    refine x_gQ e rfl rfl fd_5_2 rfl (fun z1 e => ?_)
    refine wp_p (j := J_Layout_joinMargins) 1 (pc' := 220) (lv' := [(0, .ref v0), (1, .int v1), (3, .ref v3), (6, .int v6)]) (st' := [.int v6, .ref z1]) rfl ?_
    refine x_aQ e rfl rfl rfl (fun z2 e => ?_)
    refine x_cv1 (As := []) (rest := []) Value.int e rfl rfl rfl rfl rfl rfl (fun h => d_Box_isBlockInFlow h ⟨rfl, rfl⟩) (fun z3 e => ?_)
    refine z_eq e rfl (fun e => ?_) (fun e => ?_)
    · have e := Option.some.inj e; subst e; exact wp_vret rfl rfl c
    · refine wp_p (j := J_Layout_joinMargins) 3 (pc' := 231) (lv' := [(0, .ref v0), (1, .int v1), (3, .ref v3), (6, .int v6)]) (st' := [.int 7, .int v1, .ref v0]) rfl ?_
      refine x_cv1 (As := [.int v1, .int 7]) (rest := []) Value.int e rfl rfl rfl rfl rfl rfl (fun h => d_Layout_look h ⟨rfl, rfl⟩) (fun z4 e => ?_)
      refine wp_p (j := J_Layout_joinMargins) 1 (pc' := 235) (lv' := [(0, .ref v0), (1, .int v1), (3, .ref v3), (6, .int v6)]) (st' := [.int (-1), .int z4]) rfl ?_
      refine x_ne e rfl (fun e => ?_) (fun e => ?_)
      · refine wp_p (j := J_Layout_joinMargins) 2 (pc' := 240) (lv' := [(0, .ref v0), (1, .int v1), (3, .ref v3), (6, .int v6)]) (st' := [.int 1, .ref v3]) rfl ?_
        refine x_pZ e rfl rfl fw_3_17 rfl (fun g5 e => ?_)
        refine wp_p (j := J_Layout_joinMargins) 2 (pc' := 245) (lv' := [(0, .ref v0), (1, .int v1), (3, .ref v3), (6, .int v6)]) (st' := [.ref v3, .ref v3]) rfl ?_
        refine x_gI e rfl rfl fd_3_6 rfl (fun z6 e => ?_)
        refine wp_p (j := J_Layout_joinMargins) 1 (pc' := 249) (lv' := [(0, .ref v0), (1, .int v1), (3, .ref v3), (6, .int v6)]) (st' := [.ref v0, .int z6, .ref v3]) rfl ?_
        refine x_gQ e rfl rfl fd_5_2 rfl (fun z7 e => ?_)
        refine wp_p (j := J_Layout_joinMargins) 1 (pc' := 254) (lv' := [(0, .ref v0), (1, .int v1), (3, .ref v3), (6, .int v6)]) (st' := [.int v6, .ref z7, .int z6, .ref v3]) rfl ?_
        refine x_aQ e rfl rfl rfl (fun z8 e => ?_)
        refine x_gI e rfl rfl fd_3_15 rfl (fun z9 e => ?_)
        refine x_mx rfl rfl ?_
        refine x_pI e rfl rfl fw_3_15 rfl (fun g10 e => ?_)
        have e := Option.some.inj e; subst e; exact wp_vret rfl rfl c
      · have e := Option.some.inj e; subst e; exact wp_vret rfl rfl c
noncomputable def k_Layout_joinMargins_87 (v0 : Nat) (v1 : Int32) (v2 : Nat) (v3 : Nat) (w0 : Int32) (g : g_S) : Option g_S :=
  if w0 = 0 then
    some g
  else
    (rI g 107 v2 3).bind fun z1 =>
    (L_Layout_joinMargins_107 v0 v1 v3 (-1) (-1) z1 g).bind <| u2 fun z4 z5 =>
    if z4 = (-1) then
      k_Layout_joinMargins_208 v0 v1 v3 z5 g
    else
      (rQ g 105 v0 2).bind fun z6 =>
      (aQ g 8 z6 z4).bind fun z7 =>
      (vc g 103 z7 (M_Box_isBlockInFlow z7 g)).bind fun z8 =>
      if z8 = 0 then
        k_Layout_joinMargins_208 v0 v1 v3 z5 g
      else
        (wZ g 103 v3 16 1).bind fun g9 =>
        (rI g9 103 v3 6).bind fun z10 =>
        (rQ g9 105 v0 2).bind fun z11 =>
        (aQ g9 8 z11 z4).bind fun z12 =>
        (rI g9 103 z12 14).bind fun z13 =>
        (wI g9 103 v3 14 (mx z10 z13)).bind fun g14 =>
        k_Layout_joinMargins_208 v0 v1 v3 z5 g14
set_option maxRecDepth 20000 in
theorem x_Layout_joinMargins_87 {L : Nat} {xs : Nat → Int32} {Q : Option Value → ab_H → Prop} {v0 : Nat} {v1 : Int32} {v2 : Nat} {v3 : Nat} {w0 : Int32} {g : g_S} {out : g_S} (e : k_Layout_joinMargins_87 v0 v1 v2 v3 w0 g = some out) (c : Q none (hp out)) : wp (ab_ext L xs) J_Layout_joinMargins 87 [(0, .ref v0), (1, .int v1), (2, .ref v2), (3, .ref v3)] [.int w0] (hp g) Q := by
  unfold k_Layout_joinMargins_87 at e
  refine wp_p (j := J_Layout_joinMargins) 2 (pc' := 91) (lv' := [(4, .int w0), (0, .ref v0), (1, .int v1), (2, .ref v2), (3, .ref v3)]) (st' := [.int w0]) rfl ?_
  refine z_ne e rfl (fun e => ?_) (fun e => ?_)
  · have e := Option.some.inj e; subst e; exact wp_vret rfl rfl c
  · refine wp_p (j := J_Layout_joinMargins) 5 (pc' := 102) (lv' := [(6, .int (-1)), (5, .int (-1)), (4, .int w0), (0, .ref v0), (1, .int v1), (2, .ref v2), (3, .ref v3)]) (st' := [.ref v2]) rfl ?_
    refine x_gI e rfl rfl fd_7_3 rfl (fun z1 e => ?_)
    refine wp_p (j := J_Layout_joinMargins) 1 (pc' := 107) (lv' := [(7, .int z1), (6, .int (-1)), (5, .int (-1)), (4, .int w0), (0, .ref v0), (1, .int v1), (2, .ref v2), (3, .ref v3)]) (st' := []) rfl ?_
    obtain ⟨s2, h3, e⟩ := bd e
    refine wp_lv (lv' := [(0, .ref v0), (1, .int v1), (3, .ref v3), (5, .int (-1)), (6, .int (-1)), (7, .int z1)]) rfl ⟨rfl, rfl, rfl, rfl, rfl, rfl, trivial⟩ ?_
    refine l_Layout_joinMargins_107 h3 ?_
    obtain ⟨z4, z5⟩ := s2
    replace e := u2_e e
    show wp (ab_ext L xs) J_Layout_joinMargins 163 [(0, .ref v0), (1, .int v1), (3, .ref v3), (5, .int z4), (6, .int z5)] [] (hp g) Q
    refine wp_p (j := J_Layout_joinMargins) 2 (pc' := 166) (lv' := [(0, .ref v0), (1, .int v1), (3, .ref v3), (5, .int z4), (6, .int z5)]) (st' := [.int (-1), .int z4]) rfl ?_
    refine x_eq e rfl (fun e => ?_) (fun e => ?_)
    · exact wp_lv (lv' := [(0, .ref v0), (1, .int v1), (3, .ref v3), (6, .int z5)]) rfl ⟨rfl, rfl, rfl, rfl, trivial⟩ (x_Layout_joinMargins_208 e c)
    · refine wp_p (j := J_Layout_joinMargins) 1 (pc' := 170) (lv' := [(0, .ref v0), (1, .int v1), (3, .ref v3), (5, .int z4), (6, .int z5)]) (st' := [.ref v0]) rfl ?_
      refine x_gQ e rfl rfl fd_5_2 rfl (fun z6 e => ?_)
      refine wp_p (j := J_Layout_joinMargins) 1 (pc' := 175) (lv' := [(0, .ref v0), (1, .int v1), (3, .ref v3), (5, .int z4), (6, .int z5)]) (st' := [.int z4, .ref z6]) rfl ?_
      refine x_aQ e rfl rfl rfl (fun z7 e => ?_)
      refine x_cv1 (As := []) (rest := []) Value.int e rfl rfl rfl rfl rfl rfl (fun h => d_Box_isBlockInFlow h ⟨rfl, rfl⟩) (fun z8 e => ?_)
      refine z_eq e rfl (fun e => ?_) (fun e => ?_)
      · exact wp_lv (lv' := [(0, .ref v0), (1, .int v1), (3, .ref v3), (6, .int z5)]) rfl ⟨rfl, rfl, rfl, rfl, trivial⟩ (x_Layout_joinMargins_208 e c)
      · refine wp_p (j := J_Layout_joinMargins) 2 (pc' := 184) (lv' := [(0, .ref v0), (1, .int v1), (3, .ref v3), (5, .int z4), (6, .int z5)]) (st' := [.int 1, .ref v3]) rfl ?_
        refine x_pZ e rfl rfl fw_3_16 rfl (fun g9 e => ?_)
        refine wp_p (j := J_Layout_joinMargins) 2 (pc' := 189) (lv' := [(0, .ref v0), (1, .int v1), (3, .ref v3), (5, .int z4), (6, .int z5)]) (st' := [.ref v3, .ref v3]) rfl ?_
        refine x_gI e rfl rfl fd_3_6 rfl (fun z10 e => ?_)
        refine wp_p (j := J_Layout_joinMargins) 1 (pc' := 193) (lv' := [(0, .ref v0), (1, .int v1), (3, .ref v3), (5, .int z4), (6, .int z5)]) (st' := [.ref v0, .int z10, .ref v3]) rfl ?_
        refine x_gQ e rfl rfl fd_5_2 rfl (fun z11 e => ?_)
        refine wp_p (j := J_Layout_joinMargins) 1 (pc' := 198) (lv' := [(0, .ref v0), (1, .int v1), (3, .ref v3), (5, .int z4), (6, .int z5)]) (st' := [.int z4, .ref z11, .int z10, .ref v3]) rfl ?_
        refine x_aQ e rfl rfl rfl (fun z12 e => ?_)
        refine x_gI e rfl rfl fd_3_14 rfl (fun z13 e => ?_)
        refine x_mx rfl rfl ?_
        refine x_pI e rfl rfl fw_3_14 rfl (fun g14 e => ?_)
        exact wp_lv (lv' := [(0, .ref v0), (1, .int v1), (3, .ref v3), (6, .int z5)]) rfl ⟨rfl, rfl, rfl, rfl, trivial⟩ (x_Layout_joinMargins_208 e c)
noncomputable def k_Layout_joinMargins_86 (v0 : Nat) (v1 : Int32) (v2 : Nat) (v3 : Nat) (g : g_S) : Option g_S :=
  k_Layout_joinMargins_87 v0 v1 v2 v3 0 g
set_option maxRecDepth 20000 in
theorem x_Layout_joinMargins_86 {L : Nat} {xs : Nat → Int32} {Q : Option Value → ab_H → Prop} {v0 : Nat} {v1 : Int32} {v2 : Nat} {v3 : Nat} {g : g_S} {out : g_S} (e : k_Layout_joinMargins_86 v0 v1 v2 v3 g = some out) (c : Q none (hp out)) : wp (ab_ext L xs) J_Layout_joinMargins 86 [(0, .ref v0), (1, .int v1), (2, .ref v2), (3, .ref v3)] [] (hp g) Q := by
  unfold k_Layout_joinMargins_86 at e
  refine wp_p (j := J_Layout_joinMargins) 1 (pc' := 87) (lv' := [(0, .ref v0), (1, .int v1), (2, .ref v2), (3, .ref v3)]) (st' := [.int 0]) rfl ?_
  exact wp_lv (lv' := [(0, .ref v0), (1, .int v1), (2, .ref v2), (3, .ref v3)]) rfl ⟨rfl, rfl, rfl, rfl, trivial⟩ (x_Layout_joinMargins_87 e c)
noncomputable def M_Layout_joinMargins (v0 : Nat) (v1 : Int32) (g : g_S) : Option g_S :=
  (rQ g 105 v0 0).bind fun z1 =>
  (rQ g 110 z1 0).bind fun z2 =>
  (aQ g 5 z2 v1).bind fun z3 =>
  (rQ g 105 v0 2).bind fun z4 =>
  (aQ g 8 z4 v1).bind fun z5 =>
  (rI g 103 z5 6).bind fun z6 =>
  (wI g 103 z5 14 z6).bind fun g7 =>
  (rI g7 103 z5 6).bind fun z8 =>
  (wI g7 103 z5 15 z8).bind fun g9 =>
  (wZ g9 103 z5 16 0).bind fun g10 =>
  (wZ g10 103 z5 17 0).bind fun g11 =>
  if v1 = 0 then
    k_Layout_joinMargins_86 v0 v1 z3 z5 g11
  else
    (rI g11 103 z5 13).bind fun z12 =>
    if z12 = 0 then
      (rI g11 103 z5 8).bind fun z13 =>
      if z13 = 0 then
        (vc g11 105 v0 (M_Layout_look v0 v1 0 g11)).bind fun z14 =>
        if z14 = 0 then
          (rI g11 107 z3 2).bind fun z15 =>
          (vc g11 105 v0 (M_Layout_look v0 z15 0 g11)).bind fun z16 =>
          if z16 = 0 then
            k_Layout_joinMargins_87 v0 v1 z3 z5 1 g11
          else
            k_Layout_joinMargins_86 v0 v1 z3 z5 g11
        else
          k_Layout_joinMargins_86 v0 v1 z3 z5 g11
      else
        k_Layout_joinMargins_86 v0 v1 z3 z5 g11
    else
      k_Layout_joinMargins_86 v0 v1 z3 z5 g11
set_option maxRecDepth 20000 in
theorem d_Layout_joinMargins {L : Nat} {xs : Nat → Int32} {Q : Option Value → ab_H → Prop} {v0 : Nat} {v1 : Int32} {g : g_S} {out : g_S} (e : M_Layout_joinMargins v0 v1 g = some out) (c : Q none (hp out)) : mw (ab_ext L xs) J_Layout_joinMargins [.ref v0, .int v1] (hp g) Q := by
  unfold M_Layout_joinMargins at e
  refine wp_p (j := J_Layout_joinMargins) 1 (pc' := 1) (lv' := [(0, .ref v0), (1, .int v1)]) (st' := [.ref v0]) rfl ?_
  refine x_gQ e rfl rfl fd_5_0 rfl (fun z1 e => ?_)
  refine x_gQ e rfl rfl fd_10_0 rfl (fun z2 e => ?_)
  refine wp_p (j := J_Layout_joinMargins) 1 (pc' := 8) (lv' := [(0, .ref v0), (1, .int v1)]) (st' := [.int v1, .ref z2]) rfl ?_
  refine x_aQ e rfl rfl rfl (fun z3 e => ?_)
  refine wp_p (j := J_Layout_joinMargins) 2 (pc' := 11) (lv' := [(2, .ref z3), (0, .ref v0), (1, .int v1)]) (st' := [.ref v0]) rfl ?_
  refine x_gQ e rfl rfl fd_5_2 rfl (fun z4 e => ?_)
  refine wp_p (j := J_Layout_joinMargins) 1 (pc' := 15) (lv' := [(2, .ref z3), (0, .ref v0), (1, .int v1)]) (st' := [.int v1, .ref z4]) rfl ?_
  refine x_aQ e rfl rfl rfl (fun z5 e => ?_)
  refine wp_p (j := J_Layout_joinMargins) 3 (pc' := 19) (lv' := [(3, .ref z5), (2, .ref z3), (0, .ref v0), (1, .int v1)]) (st' := [.ref z5, .ref z5]) rfl ?_
  refine x_gI e rfl rfl fd_3_6 rfl (fun z6 e => ?_)
  refine x_pI e rfl rfl fw_3_14 rfl (fun g7 e => ?_)
  refine wp_p (j := J_Layout_joinMargins) 2 (pc' := 27) (lv' := [(3, .ref z5), (2, .ref z3), (0, .ref v0), (1, .int v1)]) (st' := [.ref z5, .ref z5]) rfl ?_
  refine x_gI e rfl rfl fd_3_6 rfl (fun z8 e => ?_)
  refine x_pI e rfl rfl fw_3_15 rfl (fun g9 e => ?_)
  refine wp_p (j := J_Layout_joinMargins) 2 (pc' := 35) (lv' := [(3, .ref z5), (2, .ref z3), (0, .ref v0), (1, .int v1)]) (st' := [.int 0, .ref z5]) rfl ?_
  refine x_pZ e rfl rfl fw_3_16 rfl (fun g10 e => ?_)
  refine wp_p (j := J_Layout_joinMargins) 2 (pc' := 40) (lv' := [(3, .ref z5), (2, .ref z3), (0, .ref v0), (1, .int v1)]) (st' := [.int 0, .ref z5]) rfl ?_
  refine x_pZ e rfl rfl fw_3_17 rfl (fun g11 e => ?_)
  refine wp_p (j := J_Layout_joinMargins) 1 (pc' := 44) (lv' := [(3, .ref z5), (2, .ref z3), (0, .ref v0), (1, .int v1)]) (st' := [.int v1]) rfl ?_
  refine z_eq e rfl (fun e => ?_) (fun e => ?_)
  · exact wp_lv (lv' := [(0, .ref v0), (1, .int v1), (2, .ref z3), (3, .ref z5)]) rfl ⟨rfl, rfl, rfl, rfl, trivial⟩ (x_Layout_joinMargins_86 e c)
  · refine wp_p (j := J_Layout_joinMargins) 1 (pc' := 48) (lv' := [(3, .ref z5), (2, .ref z3), (0, .ref v0), (1, .int v1)]) (st' := [.ref z5]) rfl ?_
    refine x_gI e rfl rfl fd_3_13 rfl (fun z12 e => ?_)
    refine z_ne e rfl (fun e => ?_) (fun e => ?_)
    · refine wp_p (j := J_Layout_joinMargins) 1 (pc' := 55) (lv' := [(3, .ref z5), (2, .ref z3), (0, .ref v0), (1, .int v1)]) (st' := [.ref z5]) rfl ?_
      refine x_gI e rfl rfl fd_3_8 rfl (fun z13 e => ?_)
      refine z_ne e rfl (fun e => ?_) (fun e => ?_)
      · refine wp_p (j := J_Layout_joinMargins) 3 (pc' := 64) (lv' := [(3, .ref z5), (2, .ref z3), (0, .ref v0), (1, .int v1)]) (st' := [.int 0, .int v1, .ref v0]) rfl ?_
        refine x_cv1 (As := [.int v1, .int 0]) (rest := []) Value.int e rfl rfl rfl rfl rfl rfl (fun h => d_Layout_look h ⟨rfl, rfl⟩) (fun z14 e => ?_)
        refine z_ne e rfl (fun e => ?_) (fun e => ?_)
        · refine wp_p (j := J_Layout_joinMargins) 2 (pc' := 72) (lv' := [(3, .ref z5), (2, .ref z3), (0, .ref v0), (1, .int v1)]) (st' := [.ref z3, .ref v0]) rfl ?_
          refine x_gI e rfl rfl fd_7_2 rfl (fun z15 e => ?_)
          refine wp_p (j := J_Layout_joinMargins) 1 (pc' := 76) (lv' := [(3, .ref z5), (2, .ref z3), (0, .ref v0), (1, .int v1)]) (st' := [.int 0, .int z15, .ref v0]) rfl ?_
          refine x_cv1 (As := [.int z15, .int 0]) (rest := []) Value.int e rfl rfl rfl rfl rfl rfl (fun h => d_Layout_look h ⟨rfl, rfl⟩) (fun z16 e => ?_)
          refine z_ne e rfl (fun e => ?_) (fun e => ?_)
          · refine wp_p (j := J_Layout_joinMargins) 2 (pc' := 87) (lv' := [(3, .ref z5), (2, .ref z3), (0, .ref v0), (1, .int v1)]) (st' := [.int 1]) rfl ?_
            exact wp_lv (lv' := [(0, .ref v0), (1, .int v1), (2, .ref z3), (3, .ref z5)]) rfl ⟨rfl, rfl, rfl, rfl, trivial⟩ (x_Layout_joinMargins_87 e c)
          · exact wp_lv (lv' := [(0, .ref v0), (1, .int v1), (2, .ref z3), (3, .ref z5)]) rfl ⟨rfl, rfl, rfl, rfl, trivial⟩ (x_Layout_joinMargins_86 e c)
        · exact wp_lv (lv' := [(0, .ref v0), (1, .int v1), (2, .ref z3), (3, .ref z5)]) rfl ⟨rfl, rfl, rfl, rfl, trivial⟩ (x_Layout_joinMargins_86 e c)
      · exact wp_lv (lv' := [(0, .ref v0), (1, .int v1), (2, .ref z3), (3, .ref z5)]) rfl ⟨rfl, rfl, rfl, rfl, trivial⟩ (x_Layout_joinMargins_86 e c)
    · exact wp_lv (lv' := [(0, .ref v0), (1, .int v1), (2, .ref z3), (3, .ref z5)]) rfl ⟨rfl, rfl, rfl, rfl, trivial⟩ (x_Layout_joinMargins_86 e c)
noncomputable def M_Layout_setHeight (v0 : Nat) (v1 : Int32) (v2 : Nat) (v3 : Int32) (g : g_S) : Option g_S :=
  (vc g 105 v0 (M_Layout_look v0 v1 7 g)).bind fun z1 =>
  (rI g 103 v2 8).bind fun z2 =>
  (wI g 103 v2 5 ((2 * z2) + v3)).bind fun g3 =>
  if z1 = (-1) then
    some g3
  else
    (rI g3 103 v2 8).bind fun z4 =>
    (wI g3 103 v2 5 (mx z1 (2 * z4))).bind fun g5 =>
    some g5
set_option maxRecDepth 20000 in
theorem d_Layout_setHeight {L : Nat} {xs : Nat → Int32} {Q : Option Value → ab_H → Prop} {v0 : Nat} {v1 : Int32} {v2 : Nat} {v3 : Int32} {g : g_S} {out : g_S} (e : M_Layout_setHeight v0 v1 v2 v3 g = some out) (c : Q none (hp out)) : mw (ab_ext L xs) J_Layout_setHeight [.ref v0, .int v1, .ref v2, .int v3] (hp g) Q := by
  unfold M_Layout_setHeight at e
  refine wp_p (j := J_Layout_setHeight) 3 (pc' := 4) (lv' := [(0, .ref v0), (1, .int v1), (2, .ref v2), (3, .int v3)]) (st' := [.int 7, .int v1, .ref v0]) rfl ?_
  refine x_cv1 (As := [.int v1, .int 7]) (rest := []) Value.int e rfl rfl rfl rfl rfl rfl (fun h => d_Layout_look h ⟨rfl, rfl⟩) (fun z1 e => ?_)
  refine wp_p (j := J_Layout_setHeight) 4 (pc' := 12) (lv' := [(4, .int z1), (0, .ref v0), (1, .int v1), (2, .ref v2), (3, .int v3)]) (st' := [.ref v2, .int 2, .ref v2]) rfl ?_
  refine x_gI e rfl rfl fd_3_8 rfl (fun z2 e => ?_)
  refine wp_p (j := J_Layout_setHeight) 3 (pc' := 18) (lv' := [(4, .int z1), (0, .ref v0), (1, .int v1), (2, .ref v2), (3, .int v3)]) (st' := [.int ((2 * z2) + v3), .ref v2]) rfl ?_
  refine x_pI e rfl rfl fw_3_5 rfl (fun g3 e => ?_)
  refine wp_p (j := J_Layout_setHeight) 2 (pc' := 24) (lv' := [(4, .int z1), (0, .ref v0), (1, .int v1), (2, .ref v2), (3, .int v3)]) (st' := [.int (-1), .int z1]) rfl ?_
  refine x_eq e rfl (fun e => ?_) (fun e => ?_)
  · have e := Option.some.inj e; subst e; exact wp_vret rfl rfl c
  · refine wp_p (j := J_Layout_setHeight) 4 (pc' := 32) (lv' := [(4, .int z1), (0, .ref v0), (1, .int v1), (2, .ref v2), (3, .int v3)]) (st' := [.ref v2, .int 2, .int z1, .ref v2]) rfl ?_
    refine x_gI e rfl rfl fd_3_8 rfl (fun z4 e => ?_)
    refine wp_p (j := J_Layout_setHeight) 1 (pc' := 36) (lv' := [(4, .int z1), (0, .ref v0), (1, .int v1), (2, .ref v2), (3, .int v3)]) (st' := [.int (2 * z4), .int z1, .ref v2]) rfl ?_
    refine x_mx rfl rfl ?_
    refine x_pI e rfl rfl fw_3_5 rfl (fun g5 e => ?_)
    have e := Option.some.inj e; subst e; exact wp_vret rfl rfl c
def cL_Layout_layFlex_29 (L : Nat) (xs : Nat → Int32) (Q : Option Value → ab_H → Prop) (v0 : Nat) (v1 : Int32) (v2 : Nat) (out : (Int32 × Int32 × Int32 × g_S) ⊕ (Int32 × g_S)) : Prop := match out with
  | .inl s => wp (ab_ext L xs) J_Layout_layFlex 29 [(0, .ref v0), (1, .int v1), (2, .ref v2), (3, .int s.1), (4, .int s.2.1), (5, .int s.2.2.1)] [] (hp s.2.2.2) Q
  | .inr s => wp (ab_ext L xs) J_Layout_layFlex 133 [(0, .ref v0), (1, .int v1), (2, .ref v2), (4, .int s.1)] [] (hp s.2) Q
noncomputable def k_Layout_layFlex_115 (v0 : Nat) (v1 : Int32) (v2 : Nat) (v3 : Int32) (v4 : Int32) (v5 : Int32) (g : g_S) : Option ((Int32 × Int32 × Int32 × g_S) ⊕ (Int32 × g_S)) :=
  (rQ g 105 v0 0).bind fun z1 =>
  (rQ g 110 z1 0).bind fun z2 =>
  (aQ g 5 z2 v5).bind fun z3 =>
  (rI g 107 z3 5).bind fun z4 =>
  some (.inl (v3, v4, z4, g))
set_option maxRecDepth 20000 in
theorem x_Layout_layFlex_115 {L : Nat} {xs : Nat → Int32} {Q : Option Value → ab_H → Prop} {v0 : Nat} {v1 : Int32} {v2 : Nat} {v3 : Int32} {v4 : Int32} {v5 : Int32} {g : g_S} {out : (Int32 × Int32 × Int32 × g_S) ⊕ (Int32 × g_S)} (e : k_Layout_layFlex_115 v0 v1 v2 v3 v4 v5 g = some out) (c : cL_Layout_layFlex_29 L xs Q v0 v1 v2 out) : wp (ab_ext L xs) J_Layout_layFlex 115 [(0, .ref v0), (1, .int v1), (2, .ref v2), (3, .int v3), (4, .int v4), (5, .int v5)] [] (hp g) Q := by
  unfold k_Layout_layFlex_115 at e
  refine wp_p (j := J_Layout_layFlex) 1 (pc' := 116) (lv' := [(0, .ref v0), (1, .int v1), (2, .ref v2), (3, .int v3), (4, .int v4), (5, .int v5)]) (st' := [.ref v0]) rfl ?_
  refine x_gQ e rfl rfl fd_5_0 rfl (fun z1 e => ?_)
  refine x_gQ e rfl rfl fd_10_0 rfl (fun z2 e => ?_)
  refine wp_p (j := J_Layout_layFlex) 1 (pc' := 124) (lv' := [(0, .ref v0), (1, .int v1), (2, .ref v2), (3, .int v3), (4, .int v4), (5, .int v5)]) (st' := [.int v5, .ref z2]) rfl ?_
  refine x_aQ e rfl rfl rfl (fun z3 e => ?_)
  refine x_gI e rfl rfl fd_7_5 rfl (fun z4 e => ?_)
  refine wp_p (j := J_Layout_layFlex) 2 (pc' := 29) (lv' := [(5, .int z4), (0, .ref v0), (1, .int v1), (2, .ref v2), (3, .int v3), (4, .int v4)]) (st' := []) rfl ?_
  have e := Option.some.inj e; subst e; exact wp_lv (lv' := [(0, .ref v0), (1, .int v1), (2, .ref v2), (3, .int v3), (4, .int v4), (5, .int z4)]) rfl ⟨rfl, rfl, rfl, rfl, rfl, rfl, trivial⟩ c
noncomputable def b_Layout_layFlex_29 (v0 : Nat) (v1 : Int32) (v2 : Nat) (v3 : Int32) (v4 : Int32) (v5 : Int32) (g : g_S) : Option ((Int32 × Int32 × Int32 × g_S) ⊕ (Int32 × g_S)) :=
  if v5 = (-1) then
    some (.inr (v4, g))
  else
    (rQ g 105 v0 2).bind fun z1 =>
    (aQ g 8 z1 v5).bind fun z2 =>
    (rI g 103 z2 0).bind fun z3 =>
    if z3 = 0 then
      k_Layout_layFlex_115 v0 v1 v2 v3 v4 v5 g
    else
      (rI g 103 z2 6).bind fun z4 =>
      (wI g 103 z2 2 (v3 + z4)).bind fun g5 =>
      (rI g5 103 v2 8).bind fun z6 =>
      (rI g5 103 z2 6).bind fun z7 =>
      (wI g5 103 z2 3 (z6 + z7)).bind fun g8 =>
      (rI g8 103 z2 4).bind fun z9 =>
      (rI g8 103 z2 6).bind fun z10 =>
      (rI g8 103 z2 5).bind fun z11 =>
      (rI g8 103 z2 6).bind fun z12 =>
      k_Layout_layFlex_115 v0 v1 v2 (v3 + (z9 + (2 * z10))) (mx v4 (z11 + (2 * z12))) v5 g8
set_option maxRecDepth 20000 in
theorem y_Layout_layFlex_29 {L : Nat} {xs : Nat → Int32} {Q : Option Value → ab_H → Prop} {v0 : Nat} {v1 : Int32} {v2 : Nat} {v3 : Int32} {v4 : Int32} {v5 : Int32} {g : g_S} {out : (Int32 × Int32 × Int32 × g_S) ⊕ (Int32 × g_S)} (e : b_Layout_layFlex_29 v0 v1 v2 v3 v4 v5 g = some out) (c : cL_Layout_layFlex_29 L xs Q v0 v1 v2 out) : wp (ab_ext L xs) J_Layout_layFlex 29 [(0, .ref v0), (1, .int v1), (2, .ref v2), (3, .int v3), (4, .int v4), (5, .int v5)] [] (hp g) Q := by
  unfold b_Layout_layFlex_29 at e
  refine wp_p (j := J_Layout_layFlex) 2 (pc' := 32) (lv' := [(0, .ref v0), (1, .int v1), (2, .ref v2), (3, .int v3), (4, .int v4), (5, .int v5)]) (st' := [.int (-1), .int v5]) rfl ?_
  refine x_eq e rfl (fun e => ?_) (fun e => ?_)
  · have e := Option.some.inj e; subst e; exact wp_lv (lv' := [(0, .ref v0), (1, .int v1), (2, .ref v2), (4, .int v4)]) rfl ⟨rfl, rfl, rfl, rfl, trivial⟩ c
  · refine wp_p (j := J_Layout_layFlex) 1 (pc' := 36) (lv' := [(0, .ref v0), (1, .int v1), (2, .ref v2), (3, .int v3), (4, .int v4), (5, .int v5)]) (st' := [.ref v0]) rfl ?_
    refine x_gQ e rfl rfl fd_5_2 rfl (fun z1 e => ?_)
    refine wp_p (j := J_Layout_layFlex) 1 (pc' := 41) (lv' := [(0, .ref v0), (1, .int v1), (2, .ref v2), (3, .int v3), (4, .int v4), (5, .int v5)]) (st' := [.int v5, .ref z1]) rfl ?_
    refine x_aQ e rfl rfl rfl (fun z2 e => ?_)
    refine wp_p (j := J_Layout_layFlex) 2 (pc' := 46) (lv' := [(6, .ref z2), (0, .ref v0), (1, .int v1), (2, .ref v2), (3, .int v3), (4, .int v4), (5, .int v5)]) (st' := [.ref z2]) rfl ?_
    refine x_gI e rfl rfl fd_3_0 rfl (fun z3 e => ?_)
    refine z_eq e rfl (fun e => ?_) (fun e => ?_)
    · exact wp_lv (lv' := [(0, .ref v0), (1, .int v1), (2, .ref v2), (3, .int v3), (4, .int v4), (5, .int v5)]) rfl ⟨rfl, rfl, rfl, rfl, rfl, rfl, trivial⟩ (x_Layout_layFlex_115 e c)
    · refine wp_p (j := J_Layout_layFlex) 3 (pc' := 57) (lv' := [(6, .ref z2), (0, .ref v0), (1, .int v1), (2, .ref v2), (3, .int v3), (4, .int v4), (5, .int v5)]) (st' := [.ref z2, .int v3, .ref z2]) rfl ?_
      refine x_gI e rfl rfl fd_3_6 rfl (fun z4 e => ?_)
      refine wp_p (j := J_Layout_layFlex) 1 (pc' := 61) (lv' := [(6, .ref z2), (0, .ref v0), (1, .int v1), (2, .ref v2), (3, .int v3), (4, .int v4), (5, .int v5)]) (st' := [.int (v3 + z4), .ref z2]) rfl ?_
      refine x_pI e rfl rfl fw_3_2 rfl (fun g5 e => ?_)
      refine wp_p (j := J_Layout_layFlex) 2 (pc' := 67) (lv' := [(6, .ref z2), (0, .ref v0), (1, .int v1), (2, .ref v2), (3, .int v3), (4, .int v4), (5, .int v5)]) (st' := [.ref v2, .ref z2]) rfl ?_
      refine x_gI e rfl rfl fd_3_8 rfl (fun z6 e => ?_)
      refine wp_p (j := J_Layout_layFlex) 1 (pc' := 72) (lv' := [(6, .ref z2), (0, .ref v0), (1, .int v1), (2, .ref v2), (3, .int v3), (4, .int v4), (5, .int v5)]) (st' := [.ref z2, .int z6, .ref z2]) rfl ?_
      refine x_gI e rfl rfl fd_3_6 rfl (fun z7 e => ?_)
      refine wp_p (j := J_Layout_layFlex) 1 (pc' := 76) (lv' := [(6, .ref z2), (0, .ref v0), (1, .int v1), (2, .ref v2), (3, .int v3), (4, .int v4), (5, .int v5)]) (st' := [.int (z6 + z7), .ref z2]) rfl ?_
      refine x_pI e rfl rfl fw_3_3 rfl (fun g8 e => ?_)
      refine wp_p (j := J_Layout_layFlex) 2 (pc' := 82) (lv' := [(6, .ref z2), (0, .ref v0), (1, .int v1), (2, .ref v2), (3, .int v3), (4, .int v4), (5, .int v5)]) (st' := [.ref z2, .int v3]) rfl ?_
      refine x_gI e rfl rfl fd_3_4 rfl (fun z9 e => ?_)
      refine wp_p (j := J_Layout_layFlex) 2 (pc' := 88) (lv' := [(6, .ref z2), (0, .ref v0), (1, .int v1), (2, .ref v2), (3, .int v3), (4, .int v4), (5, .int v5)]) (st' := [.ref z2, .int 2, .int z9, .int v3]) rfl ?_
      refine x_gI e rfl rfl fd_3_6 rfl (fun z10 e => ?_)
      refine wp_p (j := J_Layout_layFlex) 6 (pc' := 99) (lv' := [(3, .int (v3 + (z9 + (2 * z10)))), (6, .ref z2), (0, .ref v0), (1, .int v1), (2, .ref v2), (4, .int v4), (5, .int v5)]) (st' := [.ref z2, .int v4]) rfl ?_
      refine x_gI e rfl rfl fd_3_5 rfl (fun z11 e => ?_)
      refine wp_p (j := J_Layout_layFlex) 2 (pc' := 105) (lv' := [(3, .int (v3 + (z9 + (2 * z10)))), (6, .ref z2), (0, .ref v0), (1, .int v1), (2, .ref v2), (4, .int v4), (5, .int v5)]) (st' := [.ref z2, .int 2, .int z11, .int v4]) rfl ?_
      refine x_gI e rfl rfl fd_3_6 rfl (fun z12 e => ?_)
      refine wp_p (j := J_Layout_layFlex) 2 (pc' := 110) (lv' := [(3, .int (v3 + (z9 + (2 * z10)))), (6, .ref z2), (0, .ref v0), (1, .int v1), (2, .ref v2), (4, .int v4), (5, .int v5)]) (st' := [.int (z11 + (2 * z12)), .int v4]) rfl ?_
      refine x_mx rfl rfl ?_
      refine wp_p (j := J_Layout_layFlex) 1 (pc' := 115) (lv' := [(4, .int (mx v4 (z11 + (2 * z12)))), (3, .int (v3 + (z9 + (2 * z10)))), (6, .ref z2), (0, .ref v0), (1, .int v1), (2, .ref v2), (5, .int v5)]) (st' := []) rfl ?_
      exact wp_lv (lv' := [(0, .ref v0), (1, .int v1), (2, .ref v2), (3, .int (v3 + (z9 + (2 * z10)))), (4, .int (mx v4 (z11 + (2 * z12)))), (5, .int v5)]) rfl ⟨rfl, rfl, rfl, rfl, rfl, rfl, trivial⟩ (x_Layout_layFlex_115 e c)
noncomputable def L_Layout_layFlex_29 (v0 : Nat) (v1 : Int32) (v2 : Nat) (v3 : Int32) (v4 : Int32) (v5 : Int32) (g : g_S) : Option (Int32 × g_S) := it (fun s : Int32 × Int32 × Int32 × g_S => b_Layout_layFlex_29 v0 v1 v2 s.1 s.2.1 s.2.2.1 s.2.2.2) (v3, v4, v5, g)
theorem l_Layout_layFlex_29 {L : Nat} {xs : Nat → Int32} {Q : Option Value → ab_H → Prop} {v0 : Nat} {v1 : Int32} {v2 : Nat} {v3 : Int32} {v4 : Int32} {v5 : Int32} {g : g_S} {r : Int32 × g_S} (e : L_Layout_layFlex_29 v0 v1 v2 v3 v4 v5 g = some r) (c : cL_Layout_layFlex_29 L xs Q v0 v1 v2 (.inr r)) : wp (ab_ext L xs) J_Layout_layFlex 29 [(0, .ref v0), (1, .int v1), (2, .ref v2), (3, .int v3), (4, .int v4), (5, .int v5)] [] (hp g) Q :=
  it_wp (P := fun s : Int32 × Int32 × Int32 × g_S => wp (ab_ext L xs) J_Layout_layFlex 29 [(0, .ref v0), (1, .int v1), (2, .ref v2), (3, .int s.1), (4, .int s.2.1), (5, .int s.2.2.1)] [] (hp s.2.2.2) Q) (E := fun r => cL_Layout_layFlex_29 L xs Q v0 v1 v2 (.inr r)) (fun s out e c => y_Layout_layFlex_29 e (by cases out <;> exact c)) e c
theorem L_Layout_layFlex_29_eq (v0 : Nat) (v1 : Int32) (v2 : Nat) (v3 : Int32) (v4 : Int32) (v5 : Int32) (g : g_S) : L_Layout_layFlex_29 v0 v1 v2 v3 v4 v5 g = itc (b_Layout_layFlex_29 v0 v1 v2 v3 v4 v5 g) (fun s => L_Layout_layFlex_29 v0 v1 v2 s.1 s.2.1 s.2.2.1 s.2.2.2) := it_eq2 (fun s : Int32 × Int32 × Int32 × g_S => b_Layout_layFlex_29 v0 v1 v2 s.1 s.2.1 s.2.2.1 s.2.2.2) (v3, v4, v5, g)
noncomputable def M_Layout_layFlex (v0 : Nat) (v1 : Int32) (g : g_S) : Option g_S :=
  (rQ g 105 v0 2).bind fun z1 =>
  (aQ g 8 z1 v1).bind fun z2 =>
  (rI g 103 z2 8).bind fun z3 =>
  (rQ g 105 v0 0).bind fun z4 =>
  (rQ g 110 z4 0).bind fun z5 =>
  (aQ g 5 z5 v1).bind fun z6 =>
  (rI g 107 z6 3).bind fun z7 =>
  (L_Layout_layFlex_29 v0 v1 z2 z3 0 z7 g).bind <| u2 fun z10 g11 =>
  (vc g11 105 v0 (M_Layout_setHeight v0 v1 z2 z10 g11)).bind fun g12 =>
  some g12
set_option maxRecDepth 20000 in
theorem d_Layout_layFlex {L : Nat} {xs : Nat → Int32} {Q : Option Value → ab_H → Prop} {v0 : Nat} {v1 : Int32} {g : g_S} {out : g_S} (e : M_Layout_layFlex v0 v1 g = some out) (c : Q none (hp out)) : mw (ab_ext L xs) J_Layout_layFlex [.ref v0, .int v1] (hp g) Q := by
  unfold M_Layout_layFlex at e
  refine wp_p (j := J_Layout_layFlex) 1 (pc' := 1) (lv' := [(0, .ref v0), (1, .int v1)]) (st' := [.ref v0]) rfl ?_
  refine x_gQ e rfl rfl fd_5_2 rfl (fun z1 e => ?_)
  refine wp_p (j := J_Layout_layFlex) 1 (pc' := 5) (lv' := [(0, .ref v0), (1, .int v1)]) (st' := [.int v1, .ref z1]) rfl ?_
  refine x_aQ e rfl rfl rfl (fun z2 e => ?_)
  refine wp_p (j := J_Layout_layFlex) 2 (pc' := 8) (lv' := [(2, .ref z2), (0, .ref v0), (1, .int v1)]) (st' := [.ref z2]) rfl ?_
  refine x_gI e rfl rfl fd_3_8 rfl (fun z3 e => ?_)
  refine wp_p (j := J_Layout_layFlex) 4 (pc' := 16) (lv' := [(4, .int 0), (3, .int z3), (2, .ref z2), (0, .ref v0), (1, .int v1)]) (st' := [.ref v0]) rfl ?_
  refine x_gQ e rfl rfl fd_5_0 rfl (fun z4 e => ?_)
  refine x_gQ e rfl rfl fd_10_0 rfl (fun z5 e => ?_)
  refine wp_p (j := J_Layout_layFlex) 1 (pc' := 23) (lv' := [(4, .int 0), (3, .int z3), (2, .ref z2), (0, .ref v0), (1, .int v1)]) (st' := [.int v1, .ref z5]) rfl ?_
  refine x_aQ e rfl rfl rfl (fun z6 e => ?_)
  refine x_gI e rfl rfl fd_7_3 rfl (fun z7 e => ?_)
  refine wp_p (j := J_Layout_layFlex) 1 (pc' := 29) (lv' := [(5, .int z7), (4, .int 0), (3, .int z3), (2, .ref z2), (0, .ref v0), (1, .int v1)]) (st' := []) rfl ?_
  obtain ⟨s8, h9, e⟩ := bd e
  refine wp_lv (lv' := [(0, .ref v0), (1, .int v1), (2, .ref z2), (3, .int z3), (4, .int 0), (5, .int z7)]) rfl ⟨rfl, rfl, rfl, rfl, rfl, rfl, trivial⟩ ?_
  refine l_Layout_layFlex_29 h9 ?_
  obtain ⟨z10, g11⟩ := s8
  replace e := u2_e e
  show wp (ab_ext L xs) J_Layout_layFlex 133 [(0, .ref v0), (1, .int v1), (2, .ref z2), (4, .int z10)] [] (hp g11) Q
  refine wp_p (j := J_Layout_layFlex) 4 (pc' := 138) (lv' := [(0, .ref v0), (1, .int v1), (2, .ref z2), (4, .int z10)]) (st' := [.int z10, .ref z2, .int v1, .ref v0]) rfl ?_
  refine x_cv0 (As := [.int v1, .ref z2, .int z10]) (rest := []) e rfl rfl rfl rfl rfl rfl (fun h => d_Layout_setHeight h ⟨rfl, rfl⟩) (fun g12 e => ?_)
  have e := Option.some.inj e; subst e; exact wp_vret rfl rfl c
def cL_Layout_openAt_47 (L : Nat) (xs : Nat → Int32) (Q : Option Value → ab_H → Prop) (v0 : Nat) (v1 : Int32) (out : (Int32 × g_S) ⊕ (g_S)) : Prop := match out with
  | .inl s => wp (ab_ext L xs) J_Layout_openAt 47 [(0, .ref v0), (1, .int v1), (2, .int s.1)] [] (hp s.2) Q
  | .inr s => wp (ab_ext L xs) J_Layout_openAt 193 [] [] (hp s) Q
noncomputable def k_Layout_openAt_128 (v0 : Nat) (v1 : Int32) (v2 : Int32) (v3 : Nat) (w0 : Int32) (w1 : Nat) (g : g_S) : Option ((Int32 × g_S) ⊕ (g_S)) :=
  (wI g 105 w1 14 w0).bind fun g1 =>
  (rI g1 103 v3 13).bind fun z2 =>
  if z2 = 1 then
    (rI g1 105 v0 12).bind fun z3 =>
    (rI g1 103 v3 2).bind fun z4 =>
    (rI g1 103 v3 4).bind fun z5 =>
    (rI g1 103 v3 6).bind fun z6 =>
    (wI g1 105 v0 12 (mx z3 ((z4 + z5) + z6))).bind fun g7 =>
    some (.inl (v2 + 1, g7))
  else
    (rI g1 105 v0 13).bind fun z8 =>
    (rI g1 103 v3 2).bind fun z9 =>
    (rI g1 103 v3 6).bind fun z10 =>
    (wI g1 105 v0 13 (mn z8 (z9 - z10))).bind fun g11 =>
    some (.inl (v2 + 1, g11))
set_option maxRecDepth 20000 in
theorem x_Layout_openAt_128 {L : Nat} {xs : Nat → Int32} {Q : Option Value → ab_H → Prop} {v0 : Nat} {v1 : Int32} {v2 : Int32} {v3 : Nat} {w0 : Int32} {w1 : Nat} {g : g_S} {out : (Int32 × g_S) ⊕ (g_S)} (e : k_Layout_openAt_128 v0 v1 v2 v3 w0 w1 g = some out) (c : cL_Layout_openAt_47 L xs Q v0 v1 out) : wp (ab_ext L xs) J_Layout_openAt 128 [(0, .ref v0), (1, .int v1), (2, .int v2), (3, .ref v3)] [.int w0, .ref w1] (hp g) Q := by
  unfold k_Layout_openAt_128 at e
  refine x_pI e rfl rfl fw_5_14 rfl (fun g1 e => ?_)
  refine wp_p (j := J_Layout_openAt) 1 (pc' := 132) (lv' := [(0, .ref v0), (1, .int v1), (2, .int v2), (3, .ref v3)]) (st' := [.ref v3]) rfl ?_
  refine x_gI e rfl rfl fd_3_13 rfl (fun z2 e => ?_)
  refine wp_p (j := J_Layout_openAt) 1 (pc' := 136) (lv' := [(0, .ref v0), (1, .int v1), (2, .int v2), (3, .ref v3)]) (st' := [.int 1, .int z2]) rfl ?_
  refine x_ne e rfl (fun e => ?_) (fun e => ?_)
  · refine wp_p (j := J_Layout_openAt) 2 (pc' := 141) (lv' := [(0, .ref v0), (1, .int v1), (2, .int v2), (3, .ref v3)]) (st' := [.ref v0, .ref v0]) rfl ?_
    refine x_gI e rfl rfl fd_5_12 rfl (fun z3 e => ?_)
    refine wp_p (j := J_Layout_openAt) 1 (pc' := 145) (lv' := [(0, .ref v0), (1, .int v1), (2, .int v2), (3, .ref v3)]) (st' := [.ref v3, .int z3, .ref v0]) rfl ?_
    refine x_gI e rfl rfl fd_3_2 rfl (fun z4 e => ?_)
    refine wp_p (j := J_Layout_openAt) 1 (pc' := 149) (lv' := [(0, .ref v0), (1, .int v1), (2, .int v2), (3, .ref v3)]) (st' := [.ref v3, .int z4, .int z3, .ref v0]) rfl ?_
    refine x_gI e rfl rfl fd_3_4 rfl (fun z5 e => ?_)
    refine wp_p (j := J_Layout_openAt) 2 (pc' := 154) (lv' := [(0, .ref v0), (1, .int v1), (2, .int v2), (3, .ref v3)]) (st' := [.ref v3, .int (z4 + z5), .int z3, .ref v0]) rfl ?_
    refine x_gI e rfl rfl fd_3_6 rfl (fun z6 e => ?_)
    refine wp_p (j := J_Layout_openAt) 1 (pc' := 158) (lv' := [(0, .ref v0), (1, .int v1), (2, .int v2), (3, .ref v3)]) (st' := [.int ((z4 + z5) + z6), .int z3, .ref v0]) rfl ?_
    refine x_mx rfl rfl ?_
    refine x_pI e rfl rfl fw_5_12 rfl (fun g7 e => ?_)
    refine wp_p (j := J_Layout_openAt) 3 (pc' := 47) (lv' := [(2, .int (v2 + 1)), (0, .ref v0), (1, .int v1), (3, .ref v3)]) (st' := []) rfl ?_
    have e := Option.some.inj e; subst e; exact wp_lv (lv' := [(0, .ref v0), (1, .int v1), (2, .int (v2 + 1))]) rfl ⟨rfl, rfl, rfl, trivial⟩ c
  · refine wp_p (j := J_Layout_openAt) 2 (pc' := 169) (lv' := [(0, .ref v0), (1, .int v1), (2, .int v2), (3, .ref v3)]) (st' := [.ref v0, .ref v0]) rfl ?_
    refine x_gI e rfl rfl fd_5_13 rfl (fun z8 e => ?_)
    refine wp_p (j := J_Layout_openAt) 1 (pc' := 173) (lv' := [(0, .ref v0), (1, .int v1), (2, .int v2), (3, .ref v3)]) (st' := [.ref v3, .int z8, .ref v0]) rfl ?_
    refine x_gI e rfl rfl fd_3_2 rfl (fun z9 e => ?_)
    refine wp_p (j := J_Layout_openAt) 1 (pc' := 177) (lv' := [(0, .ref v0), (1, .int v1), (2, .int v2), (3, .ref v3)]) (st' := [.ref v3, .int z9, .int z8, .ref v0]) rfl ?_
    refine x_gI e rfl rfl fd_3_6 rfl (fun z10 e => ?_)
    refine wp_p (j := J_Layout_openAt) 1 (pc' := 181) (lv' := [(0, .ref v0), (1, .int v1), (2, .int v2), (3, .ref v3)]) (st' := [.int (z9 - z10), .int z8, .ref v0]) rfl ?_
    refine x_mn rfl rfl ?_
    refine x_pI e rfl rfl fw_5_13 rfl (fun g11 e => ?_)
    refine wp_p (j := J_Layout_openAt) 2 (pc' := 47) (lv' := [(2, .int (v2 + 1)), (0, .ref v0), (1, .int v1), (3, .ref v3)]) (st' := []) rfl ?_
    have e := Option.some.inj e; subst e; exact wp_lv (lv' := [(0, .ref v0), (1, .int v1), (2, .int (v2 + 1))]) rfl ⟨rfl, rfl, rfl, trivial⟩ c
noncomputable def b_Layout_openAt_47 (v0 : Nat) (v1 : Int32) (v2 : Int32) (g : g_S) : Option ((Int32 × g_S) ⊕ (g_S)) :=
  (rI g 105 v0 17).bind fun z1 =>
  if v2 < z1 then
    (rQ g 105 v0 2).bind fun z2 =>
    (rQ g 105 v0 16).bind fun z3 =>
    (aI g 0 z3 v2).bind fun z4 =>
    (aQ g 8 z2 z4).bind fun z5 =>
    (rI g 103 z5 3).bind fun z6 =>
    (rI g 103 z5 5).bind fun z7 =>
    (rI g 103 z5 6).bind fun z8 =>
    (rI g 103 z5 3).bind fun z9 =>
    (rI g 103 z5 6).bind fun z10 =>
    if v1 < (z9 - z10) then
      some (.inl (v2 + 1, g))
    else
      if v1 < ((z6 + z7) + z8) then
        (rI g 105 v0 14).bind fun z11 =>
        if z11 = (-1) then
          k_Layout_openAt_128 v0 v1 v2 z5 ((z6 + z7) + z8) v0 g
        else
          (rI g 105 v0 14).bind fun z12 =>
          k_Layout_openAt_128 v0 v1 v2 z5 (mn z12 ((z6 + z7) + z8)) v0 g
      else
        some (.inl (v2 + 1, g))
  else
    some (.inr g)
set_option maxRecDepth 20000 in
theorem y_Layout_openAt_47 {L : Nat} {xs : Nat → Int32} {Q : Option Value → ab_H → Prop} {v0 : Nat} {v1 : Int32} {v2 : Int32} {g : g_S} {out : (Int32 × g_S) ⊕ (g_S)} (e : b_Layout_openAt_47 v0 v1 v2 g = some out) (c : cL_Layout_openAt_47 L xs Q v0 v1 out) : wp (ab_ext L xs) J_Layout_openAt 47 [(0, .ref v0), (1, .int v1), (2, .int v2)] [] (hp g) Q := by
  unfold b_Layout_openAt_47 at e
  refine wp_p (j := J_Layout_openAt) 2 (pc' := 49) (lv' := [(0, .ref v0), (1, .int v1), (2, .int v2)]) (st' := [.ref v0, .int v2]) rfl ?_
  refine x_gI e rfl rfl fd_5_17 rfl (fun z1 e => ?_)
  refine x_ge e rfl (fun e => ?_) (fun e => ?_)
  · refine wp_p (j := J_Layout_openAt) 1 (pc' := 56) (lv' := [(0, .ref v0), (1, .int v1), (2, .int v2)]) (st' := [.ref v0]) rfl ?_
    refine x_gQ e rfl rfl fd_5_2 rfl (fun z2 e => ?_)
    refine wp_p (j := J_Layout_openAt) 1 (pc' := 60) (lv' := [(0, .ref v0), (1, .int v1), (2, .int v2)]) (st' := [.ref v0, .ref z2]) rfl ?_
    refine x_gQ e rfl rfl fd_5_16 rfl (fun z3 e => ?_)
    refine wp_p (j := J_Layout_openAt) 1 (pc' := 64) (lv' := [(0, .ref v0), (1, .int v1), (2, .int v2)]) (st' := [.int v2, .ref z3, .ref z2]) rfl ?_
    refine x_aI e rfl rfl (fun z4 e => ?_)
    refine x_aQ e rfl rfl rfl (fun z5 e => ?_)
    refine wp_p (j := J_Layout_openAt) 2 (pc' := 68) (lv' := [(3, .ref z5), (0, .ref v0), (1, .int v1), (2, .int v2)]) (st' := [.ref z5]) rfl ?_
    refine x_gI e rfl rfl fd_3_3 rfl (fun z6 e => ?_)
    refine wp_p (j := J_Layout_openAt) 1 (pc' := 72) (lv' := [(3, .ref z5), (0, .ref v0), (1, .int v1), (2, .int v2)]) (st' := [.ref z5, .int z6]) rfl ?_
    refine x_gI e rfl rfl fd_3_5 rfl (fun z7 e => ?_)
    refine wp_p (j := J_Layout_openAt) 2 (pc' := 77) (lv' := [(3, .ref z5), (0, .ref v0), (1, .int v1), (2, .int v2)]) (st' := [.ref z5, .int (z6 + z7)]) rfl ?_
    refine x_gI e rfl rfl fd_3_6 rfl (fun z8 e => ?_)
    refine wp_p (j := J_Layout_openAt) 4 (pc' := 85) (lv' := [(4, .int ((z6 + z7) + z8)), (3, .ref z5), (0, .ref v0), (1, .int v1), (2, .int v2)]) (st' := [.ref z5, .int v1]) rfl ?_
    refine x_gI e rfl rfl fd_3_3 rfl (fun z9 e => ?_)
    refine wp_p (j := J_Layout_openAt) 1 (pc' := 89) (lv' := [(4, .int ((z6 + z7) + z8)), (3, .ref z5), (0, .ref v0), (1, .int v1), (2, .int v2)]) (st' := [.ref z5, .int z9, .int v1]) rfl ?_
    refine x_gI e rfl rfl fd_3_6 rfl (fun z10 e => ?_)
    refine wp_p (j := J_Layout_openAt) 1 (pc' := 93) (lv' := [(4, .int ((z6 + z7) + z8)), (3, .ref z5), (0, .ref v0), (1, .int v1), (2, .int v2)]) (st' := [.int (z9 - z10), .int v1]) rfl ?_
    refine x_lt e rfl (fun e => ?_) (fun e => ?_)
    · refine wp_p (j := J_Layout_openAt) 2 (pc' := 47) (lv' := [(2, .int (v2 + 1)), (4, .int ((z6 + z7) + z8)), (3, .ref z5), (0, .ref v0), (1, .int v1)]) (st' := []) rfl ?_
      have e := Option.some.inj e; subst e; exact wp_lv (lv' := [(0, .ref v0), (1, .int v1), (2, .int (v2 + 1))]) rfl ⟨rfl, rfl, rfl, trivial⟩ c
    · refine wp_p (j := J_Layout_openAt) 2 (pc' := 99) (lv' := [(4, .int ((z6 + z7) + z8)), (3, .ref z5), (0, .ref v0), (1, .int v1), (2, .int v2)]) (st' := [.int ((z6 + z7) + z8), .int v1]) rfl ?_
      refine x_lt e rfl (fun e => ?_) (fun e => ?_)
      · refine wp_p (j := J_Layout_openAt) 2 (pc' := 107) (lv' := [(4, .int ((z6 + z7) + z8)), (3, .ref z5), (0, .ref v0), (1, .int v1), (2, .int v2)]) (st' := [.ref v0, .ref v0]) rfl ?_
        refine x_gI e rfl rfl fd_5_14 rfl (fun z11 e => ?_)
        refine wp_p (j := J_Layout_openAt) 1 (pc' := 111) (lv' := [(4, .int ((z6 + z7) + z8)), (3, .ref z5), (0, .ref v0), (1, .int v1), (2, .int v2)]) (st' := [.int (-1), .int z11, .ref v0]) rfl ?_
        refine x_ne e rfl (fun e => ?_) (fun e => ?_)
        · refine wp_p (j := J_Layout_openAt) 2 (pc' := 128) (lv' := [(4, .int ((z6 + z7) + z8)), (3, .ref z5), (0, .ref v0), (1, .int v1), (2, .int v2)]) (st' := [.int ((z6 + z7) + z8), .ref v0]) rfl ?_
          exact wp_lv (lv' := [(0, .ref v0), (1, .int v1), (2, .int v2), (3, .ref z5)]) rfl ⟨rfl, rfl, rfl, rfl, trivial⟩ (x_Layout_openAt_128 e c)
        · refine wp_p (j := J_Layout_openAt) 1 (pc' := 120) (lv' := [(4, .int ((z6 + z7) + z8)), (3, .ref z5), (0, .ref v0), (1, .int v1), (2, .int v2)]) (st' := [.ref v0, .ref v0]) rfl ?_
          refine x_gI e rfl rfl fd_5_14 rfl (fun z12 e => ?_)
          refine wp_p (j := J_Layout_openAt) 1 (pc' := 125) (lv' := [(4, .int ((z6 + z7) + z8)), (3, .ref z5), (0, .ref v0), (1, .int v1), (2, .int v2)]) (st' := [.int ((z6 + z7) + z8), .int z12, .ref v0]) rfl ?_
          refine x_mn rfl rfl ?_
          exact wp_lv (lv' := [(0, .ref v0), (1, .int v1), (2, .int v2), (3, .ref z5)]) rfl ⟨rfl, rfl, rfl, rfl, trivial⟩ (x_Layout_openAt_128 e c)
      · refine wp_p (j := J_Layout_openAt) 3 (pc' := 47) (lv' := [(2, .int (v2 + 1)), (4, .int ((z6 + z7) + z8)), (3, .ref z5), (0, .ref v0), (1, .int v1)]) (st' := []) rfl ?_
        have e := Option.some.inj e; subst e; exact wp_lv (lv' := [(0, .ref v0), (1, .int v1), (2, .int (v2 + 1))]) rfl ⟨rfl, rfl, rfl, trivial⟩ c
  · have e := Option.some.inj e; subst e; exact wp_lv (lv' := []) rfl trivial c
noncomputable def L_Layout_openAt_47 (v0 : Nat) (v1 : Int32) (v2 : Int32) (g : g_S) : Option (g_S) := it (fun s : Int32 × g_S => b_Layout_openAt_47 v0 v1 s.1 s.2) (v2, g)
theorem l_Layout_openAt_47 {L : Nat} {xs : Nat → Int32} {Q : Option Value → ab_H → Prop} {v0 : Nat} {v1 : Int32} {v2 : Int32} {g : g_S} {r : g_S} (e : L_Layout_openAt_47 v0 v1 v2 g = some r) (c : cL_Layout_openAt_47 L xs Q v0 v1 (.inr r)) : wp (ab_ext L xs) J_Layout_openAt 47 [(0, .ref v0), (1, .int v1), (2, .int v2)] [] (hp g) Q :=
  it_wp (P := fun s : Int32 × g_S => wp (ab_ext L xs) J_Layout_openAt 47 [(0, .ref v0), (1, .int v1), (2, .int s.1)] [] (hp s.2) Q) (E := fun r => cL_Layout_openAt_47 L xs Q v0 v1 (.inr r)) (fun s out e c => y_Layout_openAt_47 e (by cases out <;> exact c)) e c
theorem L_Layout_openAt_47_eq (v0 : Nat) (v1 : Int32) (v2 : Int32) (g : g_S) : L_Layout_openAt_47 v0 v1 v2 g = itc (b_Layout_openAt_47 v0 v1 v2 g) (fun s => L_Layout_openAt_47 v0 v1 s.1 s.2) := it_eq2 (fun s : Int32 × g_S => b_Layout_openAt_47 v0 v1 s.1 s.2) (v2, g)
noncomputable def M_Layout_openAt (v0 : Nat) (v1 : Int32) (g : g_S) : Option g_S :=
  (rQ g 105 v0 8).bind fun z1 =>
  (rI g 103 z1 8).bind fun z2 =>
  (wI g 105 v0 12 z2).bind fun g3 =>
  (rQ g3 105 v0 8).bind fun z4 =>
  (rI g3 103 z4 8).bind fun z5 =>
  (rQ g3 105 v0 8).bind fun z6 =>
  (rI g3 103 z6 4).bind fun z7 =>
  (rQ g3 105 v0 8).bind fun z8 =>
  (rI g3 103 z8 8).bind fun z9 =>
  (wI g3 105 v0 13 (mx z5 (z7 - z9))).bind fun g10 =>
  (wI g10 105 v0 14 (-1)).bind fun g11 =>
  (L_Layout_openAt_47 v0 v1 0 g11).bind <| fun g14 =>
  some g14
set_option maxRecDepth 20000 in
theorem d_Layout_openAt {L : Nat} {xs : Nat → Int32} {Q : Option Value → ab_H → Prop} {v0 : Nat} {v1 : Int32} {g : g_S} {out : g_S} (e : M_Layout_openAt v0 v1 g = some out) (c : Q none (hp out)) : mw (ab_ext L xs) J_Layout_openAt [.ref v0, .int v1] (hp g) Q := by
  unfold M_Layout_openAt at e
  refine wp_p (j := J_Layout_openAt) 2 (pc' := 2) (lv' := [(0, .ref v0), (1, .int v1)]) (st' := [.ref v0, .ref v0]) rfl ?_
  refine x_gQ e rfl rfl fd_5_8 rfl (fun z1 e => ?_)
  refine x_gI e rfl rfl fd_3_8 rfl (fun z2 e => ?_)
  refine x_pI e rfl rfl fw_5_12 rfl (fun g3 e => ?_)
  refine wp_p (j := J_Layout_openAt) 2 (pc' := 13) (lv' := [(0, .ref v0), (1, .int v1)]) (st' := [.ref v0, .ref v0]) rfl ?_
  refine x_gQ e rfl rfl fd_5_8 rfl (fun z4 e => ?_)
  refine x_gI e rfl rfl fd_3_8 rfl (fun z5 e => ?_)
  refine wp_p (j := J_Layout_openAt) 1 (pc' := 20) (lv' := [(0, .ref v0), (1, .int v1)]) (st' := [.ref v0, .int z5, .ref v0]) rfl ?_
  refine x_gQ e rfl rfl fd_5_8 rfl (fun z6 e => ?_)
  refine x_gI e rfl rfl fd_3_4 rfl (fun z7 e => ?_)
  refine wp_p (j := J_Layout_openAt) 1 (pc' := 27) (lv' := [(0, .ref v0), (1, .int v1)]) (st' := [.ref v0, .int z7, .int z5, .ref v0]) rfl ?_
  refine x_gQ e rfl rfl fd_5_8 rfl (fun z8 e => ?_)
  refine x_gI e rfl rfl fd_3_8 rfl (fun z9 e => ?_)
  refine wp_p (j := J_Layout_openAt) 1 (pc' := 34) (lv' := [(0, .ref v0), (1, .int v1)]) (st' := [.int (z7 - z9), .int z5, .ref v0]) rfl ?_
  refine x_mx rfl rfl ?_
  refine x_pI e rfl rfl fw_5_13 rfl (fun g10 e => ?_)
  refine wp_p (j := J_Layout_openAt) 2 (pc' := 42) (lv' := [(0, .ref v0), (1, .int v1)]) (st' := [.int (-1), .ref v0]) rfl ?_
  refine x_pI e rfl rfl fw_5_14 rfl (fun g11 e => ?_)
  refine wp_p (j := J_Layout_openAt) 2 (pc' := 47) (lv' := [(2, .int 0), (0, .ref v0), (1, .int v1)]) (st' := []) rfl ?_
  obtain ⟨g14, h13, e⟩ := bd e
  refine wp_lv (lv' := [(0, .ref v0), (1, .int v1), (2, .int 0)]) rfl ⟨rfl, rfl, rfl, trivial⟩ ?_
  refine l_Layout_openAt_47 h13 ?_
  show wp (ab_ext L xs) J_Layout_openAt 193 [] [] (hp g14) Q
  have e := Option.some.inj e; subst e; exact wp_vret rfl rfl c
noncomputable def M_Layout_startFlow (v0 : Nat) (v1 : Nat) (g : g_S) : Option g_S :=
  (wR g 105 v0 8 (some v1)).bind fun g1 =>
  (wI g1 105 v0 17 0).bind fun g2 =>
  (wI g2 105 v0 18 0).bind fun g3 =>
  (rI g3 103 v1 8).bind fun z4 =>
  (wI g3 105 v0 19 z4).bind fun g5 =>
  (wI g5 105 v0 10 0).bind fun g6 =>
  (rI g6 103 v1 8).bind fun z7 =>
  (wI g6 105 v0 11 z7).bind fun g8 =>
  (wZ g8 105 v0 15 0).bind fun g9 =>
  (rI g9 105 v0 11).bind fun z10 =>
  (vc g9 105 v0 (M_Layout_openAt v0 z10 g9)).bind fun g11 =>
  some g11
set_option maxRecDepth 20000 in
theorem d_Layout_startFlow {L : Nat} {xs : Nat → Int32} {Q : Option Value → ab_H → Prop} {v0 : Nat} {v1 : Nat} {g : g_S} {out : g_S} (e : M_Layout_startFlow v0 v1 g = some out) (c : Q none (hp out)) : mw (ab_ext L xs) J_Layout_startFlow [.ref v0, .ref v1] (hp g) Q := by
  unfold M_Layout_startFlow at e
  refine wp_p (j := J_Layout_startFlow) 2 (pc' := 2) (lv' := [(0, .ref v0), (1, .ref v1)]) (st' := [.ref v1, .ref v0]) rfl ?_
  refine x_pR (r := (some v1)) e rfl rfl fd_5_8 rfl (fun g1 e => ?_)
  refine wp_p (j := J_Layout_startFlow) 2 (pc' := 7) (lv' := [(0, .ref v0), (1, .ref v1)]) (st' := [.int 0, .ref v0]) rfl ?_
  refine x_pI e rfl rfl fw_5_17 rfl (fun g2 e => ?_)
  refine wp_p (j := J_Layout_startFlow) 2 (pc' := 12) (lv' := [(0, .ref v0), (1, .ref v1)]) (st' := [.int 0, .ref v0]) rfl ?_
  refine x_pI e rfl rfl fw_5_18 rfl (fun g3 e => ?_)
  refine wp_p (j := J_Layout_startFlow) 2 (pc' := 17) (lv' := [(0, .ref v0), (1, .ref v1)]) (st' := [.ref v1, .ref v0]) rfl ?_
  refine x_gI e rfl rfl fd_3_8 rfl (fun z4 e => ?_)
  refine x_pI e rfl rfl fw_5_19 rfl (fun g5 e => ?_)
  refine wp_p (j := J_Layout_startFlow) 2 (pc' := 25) (lv' := [(0, .ref v0), (1, .ref v1)]) (st' := [.int 0, .ref v0]) rfl ?_
  refine x_pI e rfl rfl fw_5_10 rfl (fun g6 e => ?_)
  refine wp_p (j := J_Layout_startFlow) 2 (pc' := 30) (lv' := [(0, .ref v0), (1, .ref v1)]) (st' := [.ref v1, .ref v0]) rfl ?_
  refine x_gI e rfl rfl fd_3_8 rfl (fun z7 e => ?_)
  refine x_pI e rfl rfl fw_5_11 rfl (fun g8 e => ?_)
  refine wp_p (j := J_Layout_startFlow) 2 (pc' := 38) (lv' := [(0, .ref v0), (1, .ref v1)]) (st' := [.int 0, .ref v0]) rfl ?_
  refine x_pZ e rfl rfl fw_5_15 rfl (fun g9 e => ?_)
  refine wp_p (j := J_Layout_startFlow) 2 (pc' := 43) (lv' := [(0, .ref v0), (1, .ref v1)]) (st' := [.ref v0, .ref v0]) rfl ?_
  refine x_gI e rfl rfl fd_5_11 rfl (fun z10 e => ?_)
  refine x_cv0 (As := [.int z10]) (rest := []) e rfl rfl rfl rfl rfl rfl (fun h => d_Layout_openAt h ⟨rfl, rfl⟩) (fun g11 e => ?_)
  have e := Option.some.inj e; subst e; exact wp_vret rfl rfl c
noncomputable def M_Layout_wordHeight (v0 : Nat) (v1 : Int32) (g : g_S) : Option Int32 :=
  (rQ g 105 v0 2).bind fun z1 =>
  (rQ g 105 v0 5).bind fun z2 =>
  (aI g 0 z2 (v1 * 6)).bind fun z3 =>
  (aQ g 8 z1 z3).bind fun z4 =>
  (rI g 103 z4 11).bind fun z5 =>
  some (7 * z5)
set_option maxRecDepth 20000 in
theorem d_Layout_wordHeight {L : Nat} {xs : Nat → Int32} {Q : Option Value → ab_H → Prop} {v0 : Nat} {v1 : Int32} {g : g_S} {out : Int32} (e : M_Layout_wordHeight v0 v1 g = some out) (c : Q (some (.int out)) (hp g)) : mw (ab_ext L xs) J_Layout_wordHeight [.ref v0, .int v1] (hp g) Q := by
  unfold M_Layout_wordHeight at e
  refine wp_p (j := J_Layout_wordHeight) 2 (pc' := 3) (lv' := [(0, .ref v0), (1, .int v1)]) (st' := [.ref v0, .int 7]) rfl ?_
  refine x_gQ e rfl rfl fd_5_2 rfl (fun z1 e => ?_)
  refine wp_p (j := J_Layout_wordHeight) 1 (pc' := 7) (lv' := [(0, .ref v0), (1, .int v1)]) (st' := [.ref v0, .ref z1, .int 7]) rfl ?_
  refine x_gQ e rfl rfl fd_5_5 rfl (fun z2 e => ?_)
  refine wp_p (j := J_Layout_wordHeight) 3 (pc' := 14) (lv' := [(0, .ref v0), (1, .int v1)]) (st' := [.int (v1 * 6), .ref z2, .ref z1, .int 7]) rfl ?_
  refine x_aI e rfl rfl (fun z3 e => ?_)
  refine x_aQ e rfl rfl rfl (fun z4 e => ?_)
  refine x_gI e rfl rfl fd_3_11 rfl (fun z5 e => ?_)
  refine wp_p (j := J_Layout_wordHeight) 1 (pc' := 20) (lv' := [(0, .ref v0), (1, .int v1)]) (st' := [.int (7 * z5)]) rfl ?_
  have e := Option.some.inj e; subst e; exact wp_iret (ty := .int) rfl rfl rfl c
def cL_Layout_putFloat_7 (L : Nat) (xs : Nat → Int32) (Q : Option Value → ab_H → Prop) (v0 : Nat) (v1 : Nat) (g : g_S) (out : (Int32 × Int32) ⊕ (Int32)) : Prop := match out with
  | .inl s => wp (ab_ext L xs) J_Layout_putFloat 7 [(0, .ref v0), (1, .ref v1), (2, .int s.1), (3, .int s.2)] [] (hp g) Q
  | .inr s => wp (ab_ext L xs) J_Layout_putFloat 50 [(0, .ref v0), (1, .ref v1), (2, .int s)] [] (hp g) Q
noncomputable def b_Layout_putFloat_7 (v0 : Nat) (v1 : Nat) (v2 : Int32) (v3 : Int32) (g : g_S) : Option ((Int32 × Int32) ⊕ (Int32)) :=
  (rI g 105 v0 17).bind fun z1 =>
  if v3 < z1 then
    (rQ g 105 v0 2).bind fun z2 =>
    (rQ g 105 v0 16).bind fun z3 =>
    (aI g 0 z3 v3).bind fun z4 =>
    (aQ g 8 z2 z4).bind fun z5 =>
    (rI g 103 z5 3).bind fun z6 =>
    (rI g 103 z5 6).bind fun z7 =>
    some (.inl (mx v2 (z6 - z7), v3 + 1))
  else
    some (.inr v2)
set_option maxRecDepth 20000 in
theorem y_Layout_putFloat_7 {L : Nat} {xs : Nat → Int32} {Q : Option Value → ab_H → Prop} {v0 : Nat} {v1 : Nat} {v2 : Int32} {v3 : Int32} {g : g_S} {out : (Int32 × Int32) ⊕ (Int32)} (e : b_Layout_putFloat_7 v0 v1 v2 v3 g = some out) (c : cL_Layout_putFloat_7 L xs Q v0 v1 g out) : wp (ab_ext L xs) J_Layout_putFloat 7 [(0, .ref v0), (1, .ref v1), (2, .int v2), (3, .int v3)] [] (hp g) Q := by
  unfold b_Layout_putFloat_7 at e
  refine wp_p (j := J_Layout_putFloat) 2 (pc' := 9) (lv' := [(0, .ref v0), (1, .ref v1), (2, .int v2), (3, .int v3)]) (st' := [.ref v0, .int v3]) rfl ?_
  refine x_gI e rfl rfl fd_5_17 rfl (fun z1 e => ?_)
  refine x_ge e rfl (fun e => ?_) (fun e => ?_)
  · refine wp_p (j := J_Layout_putFloat) 1 (pc' := 16) (lv' := [(0, .ref v0), (1, .ref v1), (2, .int v2), (3, .int v3)]) (st' := [.ref v0]) rfl ?_
    refine x_gQ e rfl rfl fd_5_2 rfl (fun z2 e => ?_)
    refine wp_p (j := J_Layout_putFloat) 1 (pc' := 20) (lv' := [(0, .ref v0), (1, .ref v1), (2, .int v2), (3, .int v3)]) (st' := [.ref v0, .ref z2]) rfl ?_
    refine x_gQ e rfl rfl fd_5_16 rfl (fun z3 e => ?_)
    refine wp_p (j := J_Layout_putFloat) 1 (pc' := 24) (lv' := [(0, .ref v0), (1, .ref v1), (2, .int v2), (3, .int v3)]) (st' := [.int v3, .ref z3, .ref z2]) rfl ?_
    refine x_aI e rfl rfl (fun z4 e => ?_)
    refine x_aQ e rfl rfl rfl (fun z5 e => ?_)
    refine wp_p (j := J_Layout_putFloat) 3 (pc' := 31) (lv' := [(4, .ref z5), (0, .ref v0), (1, .ref v1), (2, .int v2), (3, .int v3)]) (st' := [.ref z5, .int v2]) rfl ?_
    refine x_gI e rfl rfl fd_3_3 rfl (fun z6 e => ?_)
    refine wp_p (j := J_Layout_putFloat) 1 (pc' := 36) (lv' := [(4, .ref z5), (0, .ref v0), (1, .ref v1), (2, .int v2), (3, .int v3)]) (st' := [.ref z5, .int z6, .int v2]) rfl ?_
    refine x_gI e rfl rfl fd_3_6 rfl (fun z7 e => ?_)
    refine wp_p (j := J_Layout_putFloat) 1 (pc' := 40) (lv' := [(4, .ref z5), (0, .ref v0), (1, .ref v1), (2, .int v2), (3, .int v3)]) (st' := [.int (z6 - z7), .int v2]) rfl ?_
    refine x_mx rfl rfl ?_
    refine wp_p (j := J_Layout_putFloat) 3 (pc' := 7) (lv' := [(3, .int (v3 + 1)), (2, .int (mx v2 (z6 - z7))), (4, .ref z5), (0, .ref v0), (1, .ref v1)]) (st' := []) rfl ?_
    have e := Option.some.inj e; subst e; exact wp_lv (lv' := [(0, .ref v0), (1, .ref v1), (2, .int (mx v2 (z6 - z7))), (3, .int (v3 + 1))]) rfl ⟨rfl, rfl, rfl, rfl, trivial⟩ c
  · have e := Option.some.inj e; subst e; exact wp_lv (lv' := [(0, .ref v0), (1, .ref v1), (2, .int v2)]) rfl ⟨rfl, rfl, rfl, trivial⟩ c
noncomputable def L_Layout_putFloat_7 (v0 : Nat) (v1 : Nat) (v2 : Int32) (v3 : Int32) (g : g_S) : Option (Int32) := it (fun s : Int32 × Int32 => b_Layout_putFloat_7 v0 v1 s.1 s.2 g) (v2, v3)
theorem l_Layout_putFloat_7 {L : Nat} {xs : Nat → Int32} {Q : Option Value → ab_H → Prop} {v0 : Nat} {v1 : Nat} {v2 : Int32} {v3 : Int32} {g : g_S} {r : Int32} (e : L_Layout_putFloat_7 v0 v1 v2 v3 g = some r) (c : cL_Layout_putFloat_7 L xs Q v0 v1 g (.inr r)) : wp (ab_ext L xs) J_Layout_putFloat 7 [(0, .ref v0), (1, .ref v1), (2, .int v2), (3, .int v3)] [] (hp g) Q :=
  it_wp (P := fun s : Int32 × Int32 => wp (ab_ext L xs) J_Layout_putFloat 7 [(0, .ref v0), (1, .ref v1), (2, .int s.1), (3, .int s.2)] [] (hp g) Q) (E := fun r => cL_Layout_putFloat_7 L xs Q v0 v1 g (.inr r)) (fun s out e c => y_Layout_putFloat_7 e (by cases out <;> exact c)) e c
theorem L_Layout_putFloat_7_eq (v0 : Nat) (v1 : Nat) (v2 : Int32) (v3 : Int32) (g : g_S) : L_Layout_putFloat_7 v0 v1 v2 v3 g = itc (b_Layout_putFloat_7 v0 v1 v2 v3 g) (fun s => L_Layout_putFloat_7 v0 v1 s.1 s.2 g) := it_eq2 (fun s : Int32 × Int32 => b_Layout_putFloat_7 v0 v1 s.1 s.2 g) (v2, v3)
def cL_Layout_putFloat_70 (L : Nat) (xs : Nat → Int32) (Q : Option Value → ab_H → Prop) (v0 : Nat) (v1 : Nat) (v3 : Int32) (out : (Int32 × Int32 × g_S) ⊕ (Int32 × g_S)) : Prop := match out with
  | .inl s => wp (ab_ext L xs) J_Layout_putFloat 70 [(0, .ref v0), (1, .ref v1), (2, .int s.1), (3, .int v3), (4, .int s.2.1)] [] (hp s.2.2) Q
  | .inr s => wp (ab_ext L xs) J_Layout_putFloat 114 [(0, .ref v0), (1, .ref v1), (2, .int s.1)] [] (hp s.2) Q
noncomputable def b_Layout_putFloat_70 (v0 : Nat) (v1 : Nat) (v3 : Int32) (v2 : Int32) (v4 : Int32) (g : g_S) : Option ((Int32 × Int32 × g_S) ⊕ (Int32 × g_S)) :=
  if 120 < v4 then
    some (.inr (v2, g))
  else
    (rI g 105 v0 13).bind fun z1 =>
    (rI g 105 v0 12).bind fun z2 =>
    if (z1 - z2) < v3 then
      (rI g 105 v0 14).bind fun z3 =>
      if z3 = (-1) then
        some (.inr (v2, g))
      else
        (rI g 105 v0 14).bind fun z4 =>
        (vc g 105 v0 (M_Layout_openAt v0 z4 g)).bind fun g5 =>
        some (.inl (z4, v4 + 1, g5))
    else
      some (.inr (v2, g))
set_option maxRecDepth 20000 in
theorem y_Layout_putFloat_70 {L : Nat} {xs : Nat → Int32} {Q : Option Value → ab_H → Prop} {v0 : Nat} {v1 : Nat} {v3 : Int32} {v2 : Int32} {v4 : Int32} {g : g_S} {out : (Int32 × Int32 × g_S) ⊕ (Int32 × g_S)} (e : b_Layout_putFloat_70 v0 v1 v3 v2 v4 g = some out) (c : cL_Layout_putFloat_70 L xs Q v0 v1 v3 out) : wp (ab_ext L xs) J_Layout_putFloat 70 [(0, .ref v0), (1, .ref v1), (2, .int v2), (3, .int v3), (4, .int v4)] [] (hp g) Q := by
  unfold b_Layout_putFloat_70 at e
  refine wp_p (j := J_Layout_putFloat) 2 (pc' := 74) (lv' := [(0, .ref v0), (1, .ref v1), (2, .int v2), (3, .int v3), (4, .int v4)]) (st' := [.int 120, .int v4]) rfl ?_
  refine x_gt e rfl (fun e => ?_) (fun e => ?_)
  · have e := Option.some.inj e; subst e; exact wp_lv (lv' := [(0, .ref v0), (1, .ref v1), (2, .int v2)]) rfl ⟨rfl, rfl, rfl, trivial⟩ c
  · refine wp_p (j := J_Layout_putFloat) 2 (pc' := 79) (lv' := [(0, .ref v0), (1, .ref v1), (2, .int v2), (3, .int v3), (4, .int v4)]) (st' := [.ref v0, .int v3]) rfl ?_
    refine x_gI e rfl rfl fd_5_13 rfl (fun z1 e => ?_)
    refine wp_p (j := J_Layout_putFloat) 1 (pc' := 83) (lv' := [(0, .ref v0), (1, .ref v1), (2, .int v2), (3, .int v3), (4, .int v4)]) (st' := [.ref v0, .int z1, .int v3]) rfl ?_
    refine x_gI e rfl rfl fd_5_12 rfl (fun z2 e => ?_)
    refine wp_p (j := J_Layout_putFloat) 1 (pc' := 87) (lv' := [(0, .ref v0), (1, .ref v1), (2, .int v2), (3, .int v3), (4, .int v4)]) (st' := [.int (z1 - z2), .int v3]) rfl ?_
    refine x_le e rfl (fun e => ?_) (fun e => ?_)
    · refine wp_p (j := J_Layout_putFloat) 1 (pc' := 91) (lv' := [(0, .ref v0), (1, .ref v1), (2, .int v2), (3, .int v3), (4, .int v4)]) (st' := [.ref v0]) rfl ?_
      refine x_gI e rfl rfl fd_5_14 rfl (fun z3 e => ?_)
      refine wp_p (j := J_Layout_putFloat) 1 (pc' := 95) (lv' := [(0, .ref v0), (1, .ref v1), (2, .int v2), (3, .int v3), (4, .int v4)]) (st' := [.int (-1), .int z3]) rfl ?_
      refine x_eq e rfl (fun e => ?_) (fun e => ?_)
      · have e := Option.some.inj e; subst e; exact wp_lv (lv' := [(0, .ref v0), (1, .ref v1), (2, .int v2)]) rfl ⟨rfl, rfl, rfl, trivial⟩ c
      · refine wp_p (j := J_Layout_putFloat) 1 (pc' := 99) (lv' := [(0, .ref v0), (1, .ref v1), (2, .int v2), (3, .int v3), (4, .int v4)]) (st' := [.ref v0]) rfl ?_
        refine x_gI e rfl rfl fd_5_14 rfl (fun z4 e => ?_)
        refine wp_p (j := J_Layout_putFloat) 3 (pc' := 105) (lv' := [(2, .int z4), (0, .ref v0), (1, .ref v1), (3, .int v3), (4, .int v4)]) (st' := [.int z4, .ref v0]) rfl ?_
        refine x_cv0 (As := [.int z4]) (rest := []) e rfl rfl rfl rfl rfl rfl (fun h => d_Layout_openAt h ⟨rfl, rfl⟩) (fun g5 e => ?_)
        refine wp_p (j := J_Layout_putFloat) 2 (pc' := 70) (lv' := [(4, .int (v4 + 1)), (2, .int z4), (0, .ref v0), (1, .ref v1), (3, .int v3)]) (st' := []) rfl ?_
        have e := Option.some.inj e; subst e; exact wp_lv (lv' := [(0, .ref v0), (1, .ref v1), (2, .int z4), (3, .int v3), (4, .int (v4 + 1))]) rfl ⟨rfl, rfl, rfl, rfl, rfl, trivial⟩ c
    · have e := Option.some.inj e; subst e; exact wp_lv (lv' := [(0, .ref v0), (1, .ref v1), (2, .int v2)]) rfl ⟨rfl, rfl, rfl, trivial⟩ c
noncomputable def L_Layout_putFloat_70 (v0 : Nat) (v1 : Nat) (v3 : Int32) (v2 : Int32) (v4 : Int32) (g : g_S) : Option (Int32 × g_S) := it (fun s : Int32 × Int32 × g_S => b_Layout_putFloat_70 v0 v1 v3 s.1 s.2.1 s.2.2) (v2, v4, g)
theorem l_Layout_putFloat_70 {L : Nat} {xs : Nat → Int32} {Q : Option Value → ab_H → Prop} {v0 : Nat} {v1 : Nat} {v3 : Int32} {v2 : Int32} {v4 : Int32} {g : g_S} {r : Int32 × g_S} (e : L_Layout_putFloat_70 v0 v1 v3 v2 v4 g = some r) (c : cL_Layout_putFloat_70 L xs Q v0 v1 v3 (.inr r)) : wp (ab_ext L xs) J_Layout_putFloat 70 [(0, .ref v0), (1, .ref v1), (2, .int v2), (3, .int v3), (4, .int v4)] [] (hp g) Q :=
  it_wp (P := fun s : Int32 × Int32 × g_S => wp (ab_ext L xs) J_Layout_putFloat 70 [(0, .ref v0), (1, .ref v1), (2, .int s.1), (3, .int v3), (4, .int s.2.1)] [] (hp s.2.2) Q) (E := fun r => cL_Layout_putFloat_70 L xs Q v0 v1 v3 (.inr r)) (fun s out e c => y_Layout_putFloat_70 e (by cases out <;> exact c)) e c
theorem L_Layout_putFloat_70_eq (v0 : Nat) (v1 : Nat) (v3 : Int32) (v2 : Int32) (v4 : Int32) (g : g_S) : L_Layout_putFloat_70 v0 v1 v3 v2 v4 g = itc (b_Layout_putFloat_70 v0 v1 v3 v2 v4 g) (fun s => L_Layout_putFloat_70 v0 v1 v3 s.1 s.2.1 s.2.2) := it_eq2 (fun s : Int32 × Int32 × g_S => b_Layout_putFloat_70 v0 v1 v3 s.1 s.2.1 s.2.2) (v2, v4, g)
noncomputable def k_Layout_putFloat_149 (v0 : Nat) (v1 : Nat) (v2 : Int32) (w0 : Int32) (w1 : Nat) (g : g_S) : Option g_S :=
  (wI g 103 w1 2 w0).bind fun g1 =>
  (rI g1 103 v1 6).bind fun z2 =>
  (wI g1 103 v1 3 (v2 + z2)).bind fun g3 =>
  (rI g3 105 v0 19).bind fun z4 =>
  (rI g3 103 v1 3).bind fun z5 =>
  (rI g3 103 v1 5).bind fun z6 =>
  (rI g3 103 v1 6).bind fun z7 =>
  (wI g3 105 v0 19 (mx z4 ((z5 + z6) + z7))).bind fun g8 =>
  some g8
set_option maxRecDepth 20000 in
theorem x_Layout_putFloat_149 {L : Nat} {xs : Nat → Int32} {Q : Option Value → ab_H → Prop} {v0 : Nat} {v1 : Nat} {v2 : Int32} {w0 : Int32} {w1 : Nat} {g : g_S} {out : g_S} (e : k_Layout_putFloat_149 v0 v1 v2 w0 w1 g = some out) (c : Q none (hp out)) : wp (ab_ext L xs) J_Layout_putFloat 149 [(0, .ref v0), (1, .ref v1), (2, .int v2)] [.int w0, .ref w1] (hp g) Q := by
  unfold k_Layout_putFloat_149 at e
  refine x_pI e rfl rfl fw_3_2 rfl (fun g1 e => ?_)
  refine wp_p (j := J_Layout_putFloat) 3 (pc' := 155) (lv' := [(0, .ref v0), (1, .ref v1), (2, .int v2)]) (st' := [.ref v1, .int v2, .ref v1]) rfl ?_
  refine x_gI e rfl rfl fd_3_6 rfl (fun z2 e => ?_)
  refine wp_p (j := J_Layout_putFloat) 1 (pc' := 159) (lv' := [(0, .ref v0), (1, .ref v1), (2, .int v2)]) (st' := [.int (v2 + z2), .ref v1]) rfl ?_
  refine x_pI e rfl rfl fw_3_3 rfl (fun g3 e => ?_)
  refine wp_p (j := J_Layout_putFloat) 2 (pc' := 164) (lv' := [(0, .ref v0), (1, .ref v1), (2, .int v2)]) (st' := [.ref v0, .ref v0]) rfl ?_
  refine x_gI e rfl rfl fd_5_19 rfl (fun z4 e => ?_)
  refine wp_p (j := J_Layout_putFloat) 1 (pc' := 168) (lv' := [(0, .ref v0), (1, .ref v1), (2, .int v2)]) (st' := [.ref v1, .int z4, .ref v0]) rfl ?_
  refine x_gI e rfl rfl fd_3_3 rfl (fun z5 e => ?_)
  refine wp_p (j := J_Layout_putFloat) 1 (pc' := 172) (lv' := [(0, .ref v0), (1, .ref v1), (2, .int v2)]) (st' := [.ref v1, .int z5, .int z4, .ref v0]) rfl ?_
  refine x_gI e rfl rfl fd_3_5 rfl (fun z6 e => ?_)
  refine wp_p (j := J_Layout_putFloat) 2 (pc' := 177) (lv' := [(0, .ref v0), (1, .ref v1), (2, .int v2)]) (st' := [.ref v1, .int (z5 + z6), .int z4, .ref v0]) rfl ?_
  refine x_gI e rfl rfl fd_3_6 rfl (fun z7 e => ?_)
  refine wp_p (j := J_Layout_putFloat) 1 (pc' := 181) (lv' := [(0, .ref v0), (1, .ref v1), (2, .int v2)]) (st' := [.int ((z5 + z6) + z7), .int z4, .ref v0]) rfl ?_
  refine x_mx rfl rfl ?_
  refine x_pI e rfl rfl fw_5_19 rfl (fun g8 e => ?_)
  have e := Option.some.inj e; subst e; exact wp_vret rfl rfl c
noncomputable def k_Layout_putFloat_114 (v0 : Nat) (v1 : Nat) (v2 : Int32) (g : g_S) : Option g_S :=
  (rI g 103 v1 13).bind fun z1 =>
  if z1 = 1 then
    (rI g 105 v0 12).bind fun z2 =>
    (rI g 103 v1 6).bind fun z3 =>
    k_Layout_putFloat_149 v0 v1 v2 (z2 + z3) v1 g
  else
    (rI g 105 v0 13).bind fun z4 =>
    (rI g 103 v1 6).bind fun z5 =>
    (rI g 103 v1 4).bind fun z6 =>
    k_Layout_putFloat_149 v0 v1 v2 ((z4 - z5) - z6) v1 g
set_option maxRecDepth 20000 in
theorem x_Layout_putFloat_114 {L : Nat} {xs : Nat → Int32} {Q : Option Value → ab_H → Prop} {v0 : Nat} {v1 : Nat} {v2 : Int32} {g : g_S} {out : g_S} (e : k_Layout_putFloat_114 v0 v1 v2 g = some out) (c : Q none (hp out)) : wp (ab_ext L xs) J_Layout_putFloat 114 [(0, .ref v0), (1, .ref v1), (2, .int v2)] [] (hp g) Q := by
  unfold k_Layout_putFloat_114 at e
  refine wp_p (j := J_Layout_putFloat) 2 (pc' := 116) (lv' := [(0, .ref v0), (1, .ref v1), (2, .int v2)]) (st' := [.ref v1, .ref v1]) rfl ?_
  refine x_gI e rfl rfl fd_3_13 rfl (fun z1 e => ?_)
  refine wp_p (j := J_Layout_putFloat) 1 (pc' := 120) (lv' := [(0, .ref v0), (1, .ref v1), (2, .int v2)]) (st' := [.int 1, .int z1, .ref v1]) rfl ?_
  refine x_ne e rfl (fun e => ?_) (fun e => ?_)
  · refine wp_p (j := J_Layout_putFloat) 1 (pc' := 124) (lv' := [(0, .ref v0), (1, .ref v1), (2, .int v2)]) (st' := [.ref v0, .ref v1]) rfl ?_
    refine x_gI e rfl rfl fd_5_12 rfl (fun z2 e => ?_)
    refine wp_p (j := J_Layout_putFloat) 1 (pc' := 128) (lv' := [(0, .ref v0), (1, .ref v1), (2, .int v2)]) (st' := [.ref v1, .int z2, .ref v1]) rfl ?_
    refine x_gI e rfl rfl fd_3_6 rfl (fun z3 e => ?_)
    refine wp_p (j := J_Layout_putFloat) 2 (pc' := 149) (lv' := [(0, .ref v0), (1, .ref v1), (2, .int v2)]) (st' := [.int (z2 + z3), .ref v1]) rfl ?_
    exact wp_lv (lv' := [(0, .ref v0), (1, .ref v1), (2, .int v2)]) rfl ⟨rfl, rfl, rfl, trivial⟩ (x_Layout_putFloat_149 e c)
  · refine wp_p (j := J_Layout_putFloat) 1 (pc' := 136) (lv' := [(0, .ref v0), (1, .ref v1), (2, .int v2)]) (st' := [.ref v0, .ref v1]) rfl ?_
    refine x_gI e rfl rfl fd_5_13 rfl (fun z4 e => ?_)
    refine wp_p (j := J_Layout_putFloat) 1 (pc' := 140) (lv' := [(0, .ref v0), (1, .ref v1), (2, .int v2)]) (st' := [.ref v1, .int z4, .ref v1]) rfl ?_
    refine x_gI e rfl rfl fd_3_6 rfl (fun z5 e => ?_)
    refine wp_p (j := J_Layout_putFloat) 2 (pc' := 145) (lv' := [(0, .ref v0), (1, .ref v1), (2, .int v2)]) (st' := [.ref v1, .int (z4 - z5), .ref v1]) rfl ?_
    refine x_gI e rfl rfl fd_3_4 rfl (fun z6 e => ?_)
    refine wp_p (j := J_Layout_putFloat) 1 (pc' := 149) (lv' := [(0, .ref v0), (1, .ref v1), (2, .int v2)]) (st' := [.int ((z4 - z5) - z6), .ref v1]) rfl ?_
    exact wp_lv (lv' := [(0, .ref v0), (1, .ref v1), (2, .int v2)]) rfl ⟨rfl, rfl, rfl, trivial⟩ (x_Layout_putFloat_149 e c)
noncomputable def M_Layout_putFloat (v0 : Nat) (v1 : Nat) (g : g_S) : Option g_S :=
  (rI g 105 v0 11).bind fun z1 =>
  (L_Layout_putFloat_7 v0 v1 z1 0 g).bind <| fun z4 =>
  (rI g 103 v1 4).bind fun z5 =>
  (rI g 103 v1 6).bind fun z6 =>
  (vc g 105 v0 (M_Layout_openAt v0 z4 g)).bind fun g7 =>
  (L_Layout_putFloat_70 v0 v1 (z5 + (2 * z6)) z4 0 g7).bind <| u2 fun z10 g11 =>
  k_Layout_putFloat_114 v0 v1 z10 g11
set_option maxRecDepth 20000 in
theorem d_Layout_putFloat {L : Nat} {xs : Nat → Int32} {Q : Option Value → ab_H → Prop} {v0 : Nat} {v1 : Nat} {g : g_S} {out : g_S} (e : M_Layout_putFloat v0 v1 g = some out) (c : Q none (hp out)) : mw (ab_ext L xs) J_Layout_putFloat [.ref v0, .ref v1] (hp g) Q := by
  unfold M_Layout_putFloat at e
  refine wp_p (j := J_Layout_putFloat) 1 (pc' := 1) (lv' := [(0, .ref v0), (1, .ref v1)]) (st' := [.ref v0]) rfl ?_
  refine x_gI e rfl rfl fd_5_11 rfl (fun z1 e => ?_)
  refine wp_p (j := J_Layout_putFloat) 3 (pc' := 7) (lv' := [(3, .int 0), (2, .int z1), (0, .ref v0), (1, .ref v1)]) (st' := []) rfl ?_
  obtain ⟨z4, h3, e⟩ := bd e
  refine wp_lv (lv' := [(0, .ref v0), (1, .ref v1), (2, .int z1), (3, .int 0)]) rfl ⟨rfl, rfl, rfl, rfl, trivial⟩ ?_
  refine l_Layout_putFloat_7 h3 ?_
  show wp (ab_ext L xs) J_Layout_putFloat 50 [(0, .ref v0), (1, .ref v1), (2, .int z4)] [] (hp g) Q
  refine wp_p (j := J_Layout_putFloat) 1 (pc' := 51) (lv' := [(0, .ref v0), (1, .ref v1), (2, .int z4)]) (st' := [.ref v1]) rfl ?_
  refine x_gI e rfl rfl fd_3_4 rfl (fun z5 e => ?_)
  refine wp_p (j := J_Layout_putFloat) 2 (pc' := 56) (lv' := [(0, .ref v0), (1, .ref v1), (2, .int z4)]) (st' := [.ref v1, .int 2, .int z5]) rfl ?_
  refine x_gI e rfl rfl fd_3_6 rfl (fun z6 e => ?_)
  refine wp_p (j := J_Layout_putFloat) 5 (pc' := 64) (lv' := [(3, .int (z5 + (2 * z6))), (0, .ref v0), (1, .ref v1), (2, .int z4)]) (st' := [.int z4, .ref v0]) rfl ?_
  refine x_cv0 (As := [.int z4]) (rest := []) e rfl rfl rfl rfl rfl rfl (fun h => d_Layout_openAt h ⟨rfl, rfl⟩) (fun g7 e => ?_)
  refine wp_p (j := J_Layout_putFloat) 2 (pc' := 70) (lv' := [(4, .int 0), (3, .int (z5 + (2 * z6))), (0, .ref v0), (1, .ref v1), (2, .int z4)]) (st' := []) rfl ?_
  obtain ⟨s8, h9, e⟩ := bd e
  refine wp_lv (lv' := [(0, .ref v0), (1, .ref v1), (2, .int z4), (3, .int (z5 + (2 * z6))), (4, .int 0)]) rfl ⟨rfl, rfl, rfl, rfl, rfl, trivial⟩ ?_
  refine l_Layout_putFloat_70 h9 ?_
  obtain ⟨z10, g11⟩ := s8
  replace e := u2_e e
  show wp (ab_ext L xs) J_Layout_putFloat 114 [(0, .ref v0), (1, .ref v1), (2, .int z10)] [] (hp g11) Q
  exact wp_lv (lv' := [(0, .ref v0), (1, .ref v1), (2, .int z10)]) rfl ⟨rfl, rfl, rfl, trivial⟩ (x_Layout_putFloat_114 e c)
