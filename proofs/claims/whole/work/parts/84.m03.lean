/-! methods as functions, group 3 -/
def cL_Tree_findId_13 (L : Nat) (xs : Nat → Int32) (Q : Option Value → ab_H → Prop) (v0 : Nat) (v1 : Int64) (v3 : Int64) (g : g_S) (out : (Int32) ⊕ ((Int32) ⊕ (Unit))) : Prop := match out with
  | .inl s => wp (ab_ext L xs) J_Tree_findId 13 [(0, .ref v0), (1, .long v1), (3, .long v3), (5, .int s)] [] (hp g) Q
  | .inr (.inl s) => wp (ab_ext L xs) J_Tree_findId 55 [(0, .ref v0), (5, .int s)] [] (hp g) Q
  | .inr (.inr s) => wp (ab_ext L xs) J_Tree_findId 69 [] [] (hp g) Q
noncomputable def b_Tree_findId_13 (v0 : Nat) (v1 : Int64) (v3 : Int64) (v5 : Int32) (g : g_S) : Option ((Int32) ⊕ ((Int32) ⊕ (Unit))) :=
  (rI g 110 v0 3).bind fun z1 =>
  if v5 < z1 then
    (rQ g 110 v0 0).bind fun z2 =>
    (rQ g 110 v0 2).bind fun z3 =>
    (aI g 0 z3 v5).bind fun z4 =>
    (aQ g 5 z2 z4).bind fun z5 =>
    (vc g 107 z5 (M_Node_find z5 v3 g)).bind fun z6 =>
    oc z6
      (fun q7 =>
      (vc g 104 q7 (M_Bytes_packed q7 g)).bind fun z8 =>
      if (lg_cmp z8 v1) = 0 then
        some (.inr (.inl v5))
      else
        some (.inl (v5 + 1)))
      (
      some (.inl (v5 + 1)))
  else
    some (.inr (.inr ()))
set_option maxRecDepth 20000 in
theorem y_Tree_findId_13 {L : Nat} {xs : Nat → Int32} {Q : Option Value → ab_H → Prop} {v0 : Nat} {v1 : Int64} {v3 : Int64} {v5 : Int32} {g : g_S} {out : (Int32) ⊕ ((Int32) ⊕ (Unit))} (e : b_Tree_findId_13 v0 v1 v3 v5 g = some out) (c : cL_Tree_findId_13 L xs Q v0 v1 v3 g out) : wp (ab_ext L xs) J_Tree_findId 13 [(0, .ref v0), (1, .long v1), (3, .long v3), (5, .int v5)] [] (hp g) Q := by
  unfold b_Tree_findId_13 at e
  refine wp_p (j := J_Tree_findId) 2 (pc' := 16) (lv' := [(0, .ref v0), (1, .long v1), (3, .long v3), (5, .int v5)]) (st' := [.ref v0, .int v5]) rfl ?_
  refine x_gI e rfl rfl fd_10_3 rfl (fun z1 e => ?_)
  refine x_ge e rfl (fun e => ?_) (fun e => ?_)
  · refine wp_p (j := J_Tree_findId) 1 (pc' := 23) (lv' := [(0, .ref v0), (1, .long v1), (3, .long v3), (5, .int v5)]) (st' := [.ref v0]) rfl ?_
    refine x_gQ e rfl rfl fd_10_0 rfl (fun z2 e => ?_)
    refine wp_p (j := J_Tree_findId) 1 (pc' := 27) (lv' := [(0, .ref v0), (1, .long v1), (3, .long v3), (5, .int v5)]) (st' := [.ref v0, .ref z2]) rfl ?_
    refine x_gQ e rfl rfl fd_10_2 rfl (fun z3 e => ?_)
    refine wp_p (j := J_Tree_findId) 1 (pc' := 32) (lv' := [(0, .ref v0), (1, .long v1), (3, .long v3), (5, .int v5)]) (st' := [.int v5, .ref z3, .ref z2]) rfl ?_
    refine x_aI e rfl rfl (fun z4 e => ?_)
    refine x_aQ e rfl rfl rfl (fun z5 e => ?_)
    refine wp_p (j := J_Tree_findId) 1 (pc' := 35) (lv' := [(0, .ref v0), (1, .long v1), (3, .long v3), (5, .int v5)]) (st' := [.long v3, .ref z5]) rfl ?_
    refine x_cv1 (As := [.long v3]) (rest := []) va_rf e rfl rfl rfl rfl rfl rfl (fun h => d_Node_find h ⟨rfl, rfl⟩) (fun z6 e => ?_)
    rcases z6 with _ | q7
    · replace e := oc_n e
      show wp (ab_ext L xs) J_Tree_findId 38 [(0, .ref v0), (1, .long v1), (3, .long v3), (5, .int v5)] [.null] (hp g) Q
      refine wp_p (j := J_Tree_findId) 2 (pc' := 42) (lv' := [(6, .null), (0, .ref v0), (1, .long v1), (3, .long v3), (5, .int v5)]) (st' := [.null]) rfl ?_
      refine wp_b (pc' := 63) (st' := []) rfl rfl rfl ?_
      refine wp_p (j := J_Tree_findId) 2 (pc' := 13) (lv' := [(5, .int (v5 + 1)), (6, .null), (0, .ref v0), (1, .long v1), (3, .long v3)]) (st' := []) rfl ?_
      have e := Option.some.inj e; subst e; exact wp_lv (lv' := [(0, .ref v0), (1, .long v1), (3, .long v3), (5, .int (v5 + 1))]) rfl ⟨rfl, rfl, rfl, rfl, trivial⟩ c
    · replace e := oc_s e
      show wp (ab_ext L xs) J_Tree_findId 38 [(0, .ref v0), (1, .long v1), (3, .long v3), (5, .int v5)] [.ref q7] (hp g) Q
      refine wp_p (j := J_Tree_findId) 2 (pc' := 42) (lv' := [(6, .ref q7), (0, .ref v0), (1, .long v1), (3, .long v3), (5, .int v5)]) (st' := [.ref q7]) rfl ?_
      refine wp_b (pc' := 45) (st' := []) rfl rfl rfl ?_
      refine wp_p (j := J_Tree_findId) 1 (pc' := 47) (lv' := [(6, .ref q7), (0, .ref v0), (1, .long v1), (3, .long v3), (5, .int v5)]) (st' := [.ref q7]) rfl ?_
      refine x_cv1 (As := []) (rest := []) Value.long e rfl rfl rfl rfl rfl rfl (fun h => d_Bytes_packed h ⟨rfl, rfl⟩) (fun z8 e => ?_)
      refine wp_p (j := J_Tree_findId) 2 (pc' := 52) (lv' := [(6, .ref q7), (0, .ref v0), (1, .long v1), (3, .long v3), (5, .int v5)]) (st' := [.int (lg_cmp z8 v1)]) rfl ?_
      refine z_ne e rfl (fun e => ?_) (fun e => ?_)
      · have e := Option.some.inj e; subst e; exact wp_lv (lv' := [(0, .ref v0), (5, .int v5)]) rfl ⟨rfl, rfl, trivial⟩ c
      · refine wp_p (j := J_Tree_findId) 2 (pc' := 13) (lv' := [(5, .int (v5 + 1)), (6, .ref q7), (0, .ref v0), (1, .long v1), (3, .long v3)]) (st' := []) rfl ?_
        have e := Option.some.inj e; subst e; exact wp_lv (lv' := [(0, .ref v0), (1, .long v1), (3, .long v3), (5, .int (v5 + 1))]) rfl ⟨rfl, rfl, rfl, rfl, trivial⟩ c
  · have e := Option.some.inj e; subst e; exact wp_lv (lv' := []) rfl trivial c
noncomputable def L_Tree_findId_13 (v0 : Nat) (v1 : Int64) (v3 : Int64) (v5 : Int32) (g : g_S) : Option ((Int32) ⊕ (Unit)) := it (fun s : Int32 => b_Tree_findId_13 v0 v1 v3 s g) (v5)
theorem l_Tree_findId_13 {L : Nat} {xs : Nat → Int32} {Q : Option Value → ab_H → Prop} {v0 : Nat} {v1 : Int64} {v3 : Int64} {v5 : Int32} {g : g_S} {r : (Int32) ⊕ (Unit)} (e : L_Tree_findId_13 v0 v1 v3 v5 g = some r) (c : cL_Tree_findId_13 L xs Q v0 v1 v3 g (.inr r)) : wp (ab_ext L xs) J_Tree_findId 13 [(0, .ref v0), (1, .long v1), (3, .long v3), (5, .int v5)] [] (hp g) Q :=
  it_wp (P := fun s : Int32 => wp (ab_ext L xs) J_Tree_findId 13 [(0, .ref v0), (1, .long v1), (3, .long v3), (5, .int s)] [] (hp g) Q) (E := fun r => cL_Tree_findId_13 L xs Q v0 v1 v3 g (.inr r)) (fun s out e c => y_Tree_findId_13 e (by cases out <;> exact c)) e c
theorem L_Tree_findId_13_eq (v0 : Nat) (v1 : Int64) (v3 : Int64) (v5 : Int32) (g : g_S) : L_Tree_findId_13 v0 v1 v3 v5 g = itc (b_Tree_findId_13 v0 v1 v3 v5 g) (fun s => L_Tree_findId_13 v0 v1 v3 s g) := it_eq2 (fun s : Int32 => b_Tree_findId_13 v0 v1 v3 s g) (v5)
noncomputable def M_Tree_findId (v0 : Nat) (v1 : Int64) (g : g_S) : Option (Int32 × g_S) :=
  (vc g 110 v0 (M_Tree_list v0 g)).bind fun g1 =>
  (M_Bytes_pack_1 1000024 g1).bind fun z2 =>
  (L_Tree_findId_13 v0 v1 z2 0 g1).bind <|
    us (fun z5 =>
    (rQ g1 110 v0 2).bind fun z6 =>
    (aI g1 0 z6 z5).bind fun z7 =>
    some (z7, g1))
    (fun _ =>
    some ((-1), g1))
set_option maxRecDepth 20000 in
theorem d_Tree_findId {L : Nat} {xs : Nat → Int32} {Q : Option Value → ab_H → Prop} {v0 : Nat} {v1 : Int64} {g : g_S} {out : Int32 × g_S} (e : M_Tree_findId v0 v1 g = some out) (c : Q (some (.int out.1)) (hp out.2)) : mw (ab_ext L xs) J_Tree_findId [.ref v0, .long v1] (hp g) Q := by
  unfold M_Tree_findId at e
  refine wp_p (j := J_Tree_findId) 1 (pc' := 1) (lv' := [(0, .ref v0), (1, .long v1)]) (st' := [.ref v0]) rfl ?_
  refine x_cv0 (As := []) (rest := []) e rfl rfl rfl rfl rfl rfl (fun h => d_Tree_list h ⟨rfl, rfl⟩) (fun g1 e => ?_)
  refine x_ls rfl rfl ?_
  refine x_cs1 (As := [.ref 1000024]) (rest := []) Value.long e rfl rfl rfl rfl rfl (fun h => d_Bytes_pack_1 h ⟨rfl, rfl⟩) (fun z2 e => ?_)
  refine wp_p (j := J_Tree_findId) 3 (pc' := 13) (lv' := [(5, .int 0), (3, .long z2), (0, .ref v0), (1, .long v1)]) (st' := []) rfl ?_
  obtain ⟨s3, h4, e⟩ := bd e
  refine wp_lv (lv' := [(0, .ref v0), (1, .long v1), (3, .long z2), (5, .int 0)]) rfl ⟨rfl, rfl, rfl, rfl, trivial⟩ ?_
  refine l_Tree_findId_13 h4 ?_
  rcases s3 with z5 | _
  · replace e := (us_l e)
    show wp (ab_ext L xs) J_Tree_findId 55 [(0, .ref v0), (5, .int z5)] [] (hp g1) Q
    refine wp_p (j := J_Tree_findId) 1 (pc' := 56) (lv' := [(0, .ref v0), (5, .int z5)]) (st' := [.ref v0]) rfl ?_
    refine x_gQ e rfl rfl fd_10_2 rfl (fun z6 e => ?_)
    refine wp_p (j := J_Tree_findId) 1 (pc' := 61) (lv' := [(0, .ref v0), (5, .int z5)]) (st' := [.int z5, .ref z6]) rfl ?_
    refine x_aI e rfl rfl (fun z7 e => ?_)
    have e := Option.some.inj e; subst e; exact wp_iret (ty := .int) rfl rfl rfl c
  · replace e := (us_r e)
    show wp (ab_ext L xs) J_Tree_findId 69 [] [] (hp g1) Q
    refine wp_p (j := J_Tree_findId) 1 (pc' := 70) (lv' := []) (st' := [.int (-1)]) rfl ?_
    have e := Option.some.inj e; subst e; exact wp_iret (ty := .int) rfl rfl rfl c
noncomputable def M_Acts_nodeCalled (v0 : Nat) (v1 : Nat) (v2 : Int32) (v3 : Int32) (g : g_S) : Option (Int32 × g_S) :=
  (M_Bytes_isName v1 v2 v3 g).bind fun z1 =>
  if z1 = 0 then
    some ((-1), g)
  else
    (M_Bytes_pack v1 v2 v3 g).bind fun z2 =>
    (M_Bytes_pack_1 1000023 g).bind fun z3 =>
    if (lg_cmp z2 z3) = 0 then
      (rQ g 100 v0 0).bind fun z4 =>
      (rL g 100 v0 13).bind fun z5 =>
      (vc g 110 z4 (M_Tree_alive z4 z5 g)).bind fun z6 =>
      some (z6, g)
    else
      (rQ g 100 v0 0).bind fun z7 =>
      c2 (vc g 110 z7 (M_Tree_findId z7 z2 g)) fun z8 g9 =>
      some (z8, g9)
set_option maxRecDepth 20000 in
theorem d_Acts_nodeCalled {L : Nat} {xs : Nat → Int32} {Q : Option Value → ab_H → Prop} {v0 : Nat} {v1 : Nat} {v2 : Int32} {v3 : Int32} {g : g_S} {out : Int32 × g_S} (e : M_Acts_nodeCalled v0 v1 v2 v3 g = some out) (c : Q (some (.int out.1)) (hp out.2)) : mw (ab_ext L xs) J_Acts_nodeCalled [.ref v0, .ref v1, .int v2, .int v3] (hp g) Q := by
  unfold M_Acts_nodeCalled at e
  refine wp_p (j := J_Acts_nodeCalled) 3 (pc' := 3) (lv' := [(0, .ref v0), (1, .ref v1), (2, .int v2), (3, .int v3)]) (st' := [.int v3, .int v2, .ref v1]) rfl ?_
  refine x_cs1 (As := [.ref v1, .int v2, .int v3]) (rest := []) Value.int e rfl rfl rfl rfl rfl (fun h => d_Bytes_isName h ⟨rfl, rfl⟩) (fun z1 e => ?_)
  refine z_ne e rfl (fun e => ?_) (fun e => ?_)
  · refine wp_p (j := J_Acts_nodeCalled) 1 (pc' := 10) (lv' := [(0, .ref v0), (1, .ref v1), (2, .int v2), (3, .int v3)]) (st' := [.int (-1)]) rfl ?_
    have e := Option.some.inj e; subst e; exact wp_iret (ty := .int) rfl rfl rfl c
  · refine wp_p (j := J_Acts_nodeCalled) 3 (pc' := 14) (lv' := [(0, .ref v0), (1, .ref v1), (2, .int v2), (3, .int v3)]) (st' := [.int v3, .int v2, .ref v1]) rfl ?_
    refine x_cs1 (As := [.ref v1, .int v2, .int v3]) (rest := []) Value.long e rfl rfl rfl rfl rfl (fun h => d_Bytes_pack h ⟨rfl, rfl⟩) (fun z2 e => ?_)
    refine wp_p (j := J_Acts_nodeCalled) 2 (pc' := 21) (lv' := [(4, .long z2), (0, .ref v0), (1, .ref v1), (2, .int v2), (3, .int v3)]) (st' := [.long z2]) rfl ?_
    refine x_lsw rfl rfl ?_
    refine x_cs1 (As := [.ref 1000023]) (rest := [.long z2]) Value.long e rfl rfl rfl rfl rfl (fun h => d_Bytes_pack_1 h ⟨rfl, rfl⟩) (fun z3 e => ?_)
    refine wp_p (j := J_Acts_nodeCalled) 1 (pc' := 28) (lv' := [(4, .long z2), (0, .ref v0), (1, .ref v1), (2, .int v2), (3, .int v3)]) (st' := [.int (lg_cmp z2 z3)]) rfl ?_
    refine z_ne e rfl (fun e => ?_) (fun e => ?_)
    · refine wp_p (j := J_Acts_nodeCalled) 1 (pc' := 32) (lv' := [(4, .long z2), (0, .ref v0), (1, .ref v1), (2, .int v2), (3, .int v3)]) (st' := [.ref v0]) rfl ?_
      refine x_gQ e rfl rfl fd_0_0 rfl (fun z4 e => ?_)
      refine wp_p (j := J_Acts_nodeCalled) 1 (pc' := 36) (lv' := [(4, .long z2), (0, .ref v0), (1, .ref v1), (2, .int v2), (3, .int v3)]) (st' := [.ref v0, .ref z4]) rfl ?_
      refine x_gL e rfl rfl fd_0_13 rfl (fun z5 e => ?_)
      refine x_cv1 (As := [.long z5]) (rest := []) Value.int e rfl rfl rfl rfl rfl rfl (fun h => d_Tree_alive h ⟨rfl, rfl⟩) (fun z6 e => ?_)
      refine wp_p (j := J_Acts_nodeCalled) 1 (pc' := 54) (lv' := [(4, .long z2), (0, .ref v0), (1, .ref v1), (2, .int v2), (3, .int v3)]) (st' := [.int z6]) rfl ?_
      have e := Option.some.inj e; subst e; exact wp_iret (ty := .int) rfl rfl rfl c
    · refine wp_p (j := J_Acts_nodeCalled) 1 (pc' := 46) (lv' := [(4, .long z2), (0, .ref v0), (1, .ref v1), (2, .int v2), (3, .int v3)]) (st' := [.ref v0]) rfl ?_
      refine x_gQ e rfl rfl fd_0_0 rfl (fun z7 e => ?_)
      refine wp_p (j := J_Acts_nodeCalled) 1 (pc' := 51) (lv' := [(4, .long z2), (0, .ref v0), (1, .ref v1), (2, .int v2), (3, .int v3)]) (st' := [.long z2, .ref z7]) rfl ?_
      refine x_cv2 (As := [.long z2]) (rest := []) Value.int e rfl rfl rfl rfl rfl rfl (fun h => d_Tree_findId h ⟨rfl, rfl⟩) (fun z8 g9 e => ?_)
      have e := Option.some.inj e; subst e; exact wp_iret (ty := .int) rfl rfl rfl c
def cL_Tree_remove_39 (L : Nat) (xs : Nat → Int32) (Q : Option Value → ab_H → Prop) (v0 : Nat) (v1 : Int32) (v2 : Nat) (v3 : Nat) (g : g_S) (out : (Int32 × Int32) ⊕ (Int32)) : Prop := match out with
  | .inl s => wp (ab_ext L xs) J_Tree_remove 39 [(0, .ref v0), (1, .int v1), (2, .ref v2), (3, .ref v3), (4, .int s.1), (5, .int s.2)] [] (hp g) Q
  | .inr s => wp (ab_ext L xs) J_Tree_remove 70 [(0, .ref v0), (1, .int v1), (2, .ref v2), (3, .ref v3), (4, .int s)] [] (hp g) Q
noncomputable def b_Tree_remove_39 (v0 : Nat) (v1 : Int32) (v2 : Nat) (v3 : Nat) (v4 : Int32) (v5 : Int32) (g : g_S) : Option ((Int32 × Int32) ⊕ (Int32)) :=
  if v5 = (-1) then
    some (.inr v4)
  else
    if v5 = v1 then
      some (.inr v4)
    else
      (rQ g 110 v0 0).bind fun z1 =>
      (aQ g 5 z1 v5).bind fun z2 =>
      (rI g 107 z2 5).bind fun z3 =>
      some (.inl (v5, z3))
set_option maxRecDepth 20000 in
theorem y_Tree_remove_39 {L : Nat} {xs : Nat → Int32} {Q : Option Value → ab_H → Prop} {v0 : Nat} {v1 : Int32} {v2 : Nat} {v3 : Nat} {v4 : Int32} {v5 : Int32} {g : g_S} {out : (Int32 × Int32) ⊕ (Int32)} (e : b_Tree_remove_39 v0 v1 v2 v3 v4 v5 g = some out) (c : cL_Tree_remove_39 L xs Q v0 v1 v2 v3 g out) : wp (ab_ext L xs) J_Tree_remove 39 [(0, .ref v0), (1, .int v1), (2, .ref v2), (3, .ref v3), (4, .int v4), (5, .int v5)] [] (hp g) Q := by
  unfold b_Tree_remove_39 at e
  refine wp_p (j := J_Tree_remove) 2 (pc' := 42) (lv' := [(0, .ref v0), (1, .int v1), (2, .ref v2), (3, .ref v3), (4, .int v4), (5, .int v5)]) (st' := [.int (-1), .int v5]) rfl ?_
  refine x_eq e rfl (fun e => ?_) (fun e => ?_)
  · have e := Option.some.inj e; subst e; exact wp_lv (lv' := [(0, .ref v0), (1, .int v1), (2, .ref v2), (3, .ref v3), (4, .int v4)]) rfl ⟨rfl, rfl, rfl, rfl, rfl, trivial⟩ c
  · refine wp_p (j := J_Tree_remove) 2 (pc' := 48) (lv' := [(0, .ref v0), (1, .int v1), (2, .ref v2), (3, .ref v3), (4, .int v4), (5, .int v5)]) (st' := [.int v1, .int v5]) rfl ?_
    refine x_eq e rfl (fun e => ?_) (fun e => ?_)
    · have e := Option.some.inj e; subst e; exact wp_lv (lv' := [(0, .ref v0), (1, .int v1), (2, .ref v2), (3, .ref v3), (4, .int v4)]) rfl ⟨rfl, rfl, rfl, rfl, rfl, trivial⟩ c
    · refine wp_p (j := J_Tree_remove) 3 (pc' := 56) (lv' := [(4, .int v5), (0, .ref v0), (1, .int v1), (2, .ref v2), (3, .ref v3), (5, .int v5)]) (st' := [.ref v0]) rfl ?_
      refine x_gQ e rfl rfl fd_10_0 rfl (fun z1 e => ?_)
      refine wp_p (j := J_Tree_remove) 1 (pc' := 61) (lv' := [(4, .int v5), (0, .ref v0), (1, .int v1), (2, .ref v2), (3, .ref v3), (5, .int v5)]) (st' := [.int v5, .ref z1]) rfl ?_
      refine x_aQ e rfl rfl rfl (fun z2 e => ?_)
      refine x_gI e rfl rfl fd_7_5 rfl (fun z3 e => ?_)
      refine wp_p (j := J_Tree_remove) 2 (pc' := 39) (lv' := [(5, .int z3), (4, .int v5), (0, .ref v0), (1, .int v1), (2, .ref v2), (3, .ref v3)]) (st' := []) rfl ?_
      have e := Option.some.inj e; subst e; exact wp_lv (lv' := [(0, .ref v0), (1, .int v1), (2, .ref v2), (3, .ref v3), (4, .int v5), (5, .int z3)]) rfl ⟨rfl, rfl, rfl, rfl, rfl, rfl, trivial⟩ c
noncomputable def L_Tree_remove_39 (v0 : Nat) (v1 : Int32) (v2 : Nat) (v3 : Nat) (v4 : Int32) (v5 : Int32) (g : g_S) : Option (Int32) := it (fun s : Int32 × Int32 => b_Tree_remove_39 v0 v1 v2 v3 s.1 s.2 g) (v4, v5)
theorem l_Tree_remove_39 {L : Nat} {xs : Nat → Int32} {Q : Option Value → ab_H → Prop} {v0 : Nat} {v1 : Int32} {v2 : Nat} {v3 : Nat} {v4 : Int32} {v5 : Int32} {g : g_S} {r : Int32} (e : L_Tree_remove_39 v0 v1 v2 v3 v4 v5 g = some r) (c : cL_Tree_remove_39 L xs Q v0 v1 v2 v3 g (.inr r)) : wp (ab_ext L xs) J_Tree_remove 39 [(0, .ref v0), (1, .int v1), (2, .ref v2), (3, .ref v3), (4, .int v4), (5, .int v5)] [] (hp g) Q :=
  it_wp (P := fun s : Int32 × Int32 => wp (ab_ext L xs) J_Tree_remove 39 [(0, .ref v0), (1, .int v1), (2, .ref v2), (3, .ref v3), (4, .int s.1), (5, .int s.2)] [] (hp g) Q) (E := fun r => cL_Tree_remove_39 L xs Q v0 v1 v2 v3 g (.inr r)) (fun s out e c => y_Tree_remove_39 e (by cases out <;> exact c)) e c
theorem L_Tree_remove_39_eq (v0 : Nat) (v1 : Int32) (v2 : Nat) (v3 : Nat) (v4 : Int32) (v5 : Int32) (g : g_S) : L_Tree_remove_39 v0 v1 v2 v3 v4 v5 g = itc (b_Tree_remove_39 v0 v1 v2 v3 v4 v5 g) (fun s => L_Tree_remove_39 v0 v1 v2 v3 s.1 s.2 g) := it_eq2 (fun s : Int32 × Int32 => b_Tree_remove_39 v0 v1 v2 v3 s.1 s.2 g) (v4, v5)
noncomputable def k_Tree_remove_115 (v0 : Nat) (v2 : Nat) (v3 : Nat) (g : g_S) : Option g_S :=
  (rI g 107 v3 6).bind fun z1 =>
  (wI g 107 v3 6 (z1 - 1)).bind fun g2 =>
  (rI g2 107 v2 8).bind fun z3 =>
  (rI g2 107 v2 9).bind fun z4 =>
  (vc g2 110 v0 (M_Tree_free v0 z3 z4 g2)).bind fun g5 =>
  some g5
set_option maxRecDepth 20000 in
theorem x_Tree_remove_115 {L : Nat} {xs : Nat → Int32} {Q : Option Value → ab_H → Prop} {v0 : Nat} {v2 : Nat} {v3 : Nat} {g : g_S} {out : g_S} (e : k_Tree_remove_115 v0 v2 v3 g = some out) (c : Q none (hp out)) : wp (ab_ext L xs) J_Tree_remove 115 [(0, .ref v0), (2, .ref v2), (3, .ref v3)] [] (hp g) Q := by
  unfold k_Tree_remove_115 at e
  refine wp_p (j := J_Tree_remove) 2 (pc' := 117) (lv' := [(0, .ref v0), (2, .ref v2), (3, .ref v3)]) (st' := [.ref v3, .ref v3]) rfl ?_
  refine x_gI e rfl rfl fd_7_6 rfl (fun z1 e => ?_)
  refine wp_p (j := J_Tree_remove) 2 (pc' := 122) (lv' := [(0, .ref v0), (2, .ref v2), (3, .ref v3)]) (st' := [.int (z1 - 1), .ref v3]) rfl ?_
  refine x_pI e rfl rfl fw_7_6 rfl (fun g2 e => ?_)
  refine wp_p (j := J_Tree_remove) 2 (pc' := 127) (lv' := [(0, .ref v0), (2, .ref v2), (3, .ref v3)]) (st' := [.ref v2, .ref v0]) rfl ?_
  refine x_gI e rfl rfl fd_7_8 rfl (fun z3 e => ?_)
  refine wp_p (j := J_Tree_remove) 1 (pc' := 131) (lv' := [(0, .ref v0), (2, .ref v2), (3, .ref v3)]) (st' := [.ref v2, .int z3, .ref v0]) rfl ?_
  refine x_gI e rfl rfl fd_7_9 rfl (fun z4 e => ?_)
  refine x_cv0 (As := [.int z3, .int z4]) (rest := []) e rfl rfl rfl rfl rfl rfl (fun h => d_Tree_free h ⟨rfl, rfl⟩) (fun g5 e => ?_)
  have e := Option.some.inj e; subst e; exact wp_vret rfl rfl c
noncomputable def k_Tree_remove_101 (v0 : Nat) (v1 : Int32) (v2 : Nat) (v3 : Nat) (v4 : Int32) (g : g_S) : Option g_S :=
  (rI g 107 v3 4).bind fun z1 =>
  if z1 = v1 then
    (wI g 107 v3 4 v4).bind fun g2 =>
    k_Tree_remove_115 v0 v2 v3 g2
  else
    k_Tree_remove_115 v0 v2 v3 g
set_option maxRecDepth 20000 in
theorem x_Tree_remove_101 {L : Nat} {xs : Nat → Int32} {Q : Option Value → ab_H → Prop} {v0 : Nat} {v1 : Int32} {v2 : Nat} {v3 : Nat} {v4 : Int32} {g : g_S} {out : g_S} (e : k_Tree_remove_101 v0 v1 v2 v3 v4 g = some out) (c : Q none (hp out)) : wp (ab_ext L xs) J_Tree_remove 101 [(0, .ref v0), (1, .int v1), (2, .ref v2), (3, .ref v3), (4, .int v4)] [] (hp g) Q := by
  unfold k_Tree_remove_101 at e
  refine wp_p (j := J_Tree_remove) 1 (pc' := 102) (lv' := [(0, .ref v0), (1, .int v1), (2, .ref v2), (3, .ref v3), (4, .int v4)]) (st' := [.ref v3]) rfl ?_
  refine x_gI e rfl rfl fd_7_4 rfl (fun z1 e => ?_)
  refine wp_p (j := J_Tree_remove) 1 (pc' := 106) (lv' := [(0, .ref v0), (1, .int v1), (2, .ref v2), (3, .ref v3), (4, .int v4)]) (st' := [.int v1, .int z1]) rfl ?_
  refine x_ne e rfl (fun e => ?_) (fun e => ?_)
  · refine wp_p (j := J_Tree_remove) 2 (pc' := 112) (lv' := [(0, .ref v0), (1, .int v1), (2, .ref v2), (3, .ref v3), (4, .int v4)]) (st' := [.int v4, .ref v3]) rfl ?_
    refine x_pI e rfl rfl fw_7_4 rfl (fun g2 e => ?_)
    exact wp_lv (lv' := [(0, .ref v0), (2, .ref v2), (3, .ref v3)]) rfl ⟨rfl, rfl, rfl, trivial⟩ (x_Tree_remove_115 e c)
  · exact wp_lv (lv' := [(0, .ref v0), (2, .ref v2), (3, .ref v3)]) rfl ⟨rfl, rfl, rfl, trivial⟩ (x_Tree_remove_115 e c)
noncomputable def k_Tree_remove_70 (v0 : Nat) (v1 : Int32) (v2 : Nat) (v3 : Nat) (v4 : Int32) (g : g_S) : Option g_S :=
  if v4 = (-1) then
    (rI g 107 v2 5).bind fun z1 =>
    (wI g 107 v3 3 z1).bind fun g2 =>
    k_Tree_remove_101 v0 v1 v2 v3 v4 g2
  else
    (rQ g 110 v0 0).bind fun z3 =>
    (aQ g 5 z3 v4).bind fun z4 =>
    (rI g 107 v2 5).bind fun z5 =>
    (wI g 107 z4 5 z5).bind fun g6 =>
    k_Tree_remove_101 v0 v1 v2 v3 v4 g6
set_option maxRecDepth 20000 in
theorem x_Tree_remove_70 {L : Nat} {xs : Nat → Int32} {Q : Option Value → ab_H → Prop} {v0 : Nat} {v1 : Int32} {v2 : Nat} {v3 : Nat} {v4 : Int32} {g : g_S} {out : g_S} (e : k_Tree_remove_70 v0 v1 v2 v3 v4 g = some out) (c : Q none (hp out)) : wp (ab_ext L xs) J_Tree_remove 70 [(0, .ref v0), (1, .int v1), (2, .ref v2), (3, .ref v3), (4, .int v4)] [] (hp g) Q := by
  unfold k_Tree_remove_70 at e
  refine wp_p (j := J_Tree_remove) 2 (pc' := 73) (lv' := [(0, .ref v0), (1, .int v1), (2, .ref v2), (3, .ref v3), (4, .int v4)]) (st' := [.int (-1), .int v4]) rfl ?_
  refine x_ne e rfl (fun e => ?_) (fun e => ?_)
  · refine wp_p (j := J_Tree_remove) 2 (pc' := 78) (lv' := [(0, .ref v0), (1, .int v1), (2, .ref v2), (3, .ref v3), (4, .int v4)]) (st' := [.ref v2, .ref v3]) rfl ?_
    refine x_gI e rfl rfl fd_7_5 rfl (fun z1 e => ?_)
    refine x_pI e rfl rfl fw_7_3 rfl (fun g2 e => ?_)
    refine wp_p (j := J_Tree_remove) 1 (pc' := 101) (lv' := [(0, .ref v0), (1, .int v1), (2, .ref v2), (3, .ref v3), (4, .int v4)]) (st' := []) rfl ?_
    exact wp_lv (lv' := [(0, .ref v0), (1, .int v1), (2, .ref v2), (3, .ref v3), (4, .int v4)]) rfl ⟨rfl, rfl, rfl, rfl, rfl, trivial⟩ (x_Tree_remove_101 e c)
  · refine wp_p (j := J_Tree_remove) 1 (pc' := 88) (lv' := [(0, .ref v0), (1, .int v1), (2, .ref v2), (3, .ref v3), (4, .int v4)]) (st' := [.ref v0]) rfl ?_
    refine x_gQ e rfl rfl fd_10_0 rfl (fun z3 e => ?_)
    refine wp_p (j := J_Tree_remove) 1 (pc' := 93) (lv' := [(0, .ref v0), (1, .int v1), (2, .ref v2), (3, .ref v3), (4, .int v4)]) (st' := [.int v4, .ref z3]) rfl ?_
    refine x_aQ e rfl rfl rfl (fun z4 e => ?_)
    refine wp_p (j := J_Tree_remove) 1 (pc' := 95) (lv' := [(0, .ref v0), (1, .int v1), (2, .ref v2), (3, .ref v3), (4, .int v4)]) (st' := [.ref v2, .ref z4]) rfl ?_
    refine x_gI e rfl rfl fd_7_5 rfl (fun z5 e => ?_)
    refine x_pI e rfl rfl fw_7_5 rfl (fun g6 e => ?_)
    exact wp_lv (lv' := [(0, .ref v0), (1, .int v1), (2, .ref v2), (3, .ref v3), (4, .int v4)]) rfl ⟨rfl, rfl, rfl, rfl, rfl, trivial⟩ (x_Tree_remove_101 e c)
noncomputable def M_Tree_remove (v0 : Nat) (v1 : Int32) (g : g_S) : Option g_S :=
  (rQ g 110 v0 0).bind fun z1 =>
  (aQ g 5 z1 v1).bind fun z2 =>
  (rI g 107 z2 2).bind fun z3 =>
  if z3 = (-1) then
    some g
  else
    (vc g 110 v0 (M_Tree_list v0 g)).bind fun g4 =>
    (rQ g4 110 v0 0).bind fun z5 =>
    (rI g4 107 z2 2).bind fun z6 =>
    (aQ g4 5 z5 z6).bind fun z7 =>
    (rI g4 107 z7 3).bind fun z8 =>
    (L_Tree_remove_39 v0 v1 z2 z7 (-1) z8 g4).bind <| fun z11 =>
    k_Tree_remove_70 v0 v1 z2 z7 z11 g4
set_option maxRecDepth 20000 in
theorem d_Tree_remove {L : Nat} {xs : Nat → Int32} {Q : Option Value → ab_H → Prop} {v0 : Nat} {v1 : Int32} {g : g_S} {out : g_S} (e : M_Tree_remove v0 v1 g = some out) (c : Q none (hp out)) : mw (ab_ext L xs) J_Tree_remove [.ref v0, .int v1] (hp g) Q := by
  unfold M_Tree_remove at e
  refine wp_p (j := J_Tree_remove) 1 (pc' := 1) (lv' := [(0, .ref v0), (1, .int v1)]) (st' := [.ref v0]) rfl ?_
  refine x_gQ e rfl rfl fd_10_0 rfl (fun z1 e => ?_)
  refine wp_p (j := J_Tree_remove) 1 (pc' := 5) (lv' := [(0, .ref v0), (1, .int v1)]) (st' := [.int v1, .ref z1]) rfl ?_
  refine x_aQ e rfl rfl rfl (fun z2 e => ?_)
  refine wp_p (j := J_Tree_remove) 2 (pc' := 8) (lv' := [(2, .ref z2), (0, .ref v0), (1, .int v1)]) (st' := [.ref z2]) rfl ?_
  refine x_gI e rfl rfl fd_7_2 rfl (fun z3 e => ?_)
  refine wp_p (j := J_Tree_remove) 1 (pc' := 12) (lv' := [(2, .ref z2), (0, .ref v0), (1, .int v1)]) (st' := [.int (-1), .int z3]) rfl ?_
  refine x_ne e rfl (fun e => ?_) (fun e => ?_)
  · have e := Option.some.inj e; subst e; exact wp_vret rfl rfl c
  · refine wp_p (j := J_Tree_remove) 1 (pc' := 17) (lv' := [(2, .ref z2), (0, .ref v0), (1, .int v1)]) (st' := [.ref v0]) rfl ?_
    refine x_cv0 (As := []) (rest := []) e rfl rfl rfl rfl rfl rfl (fun h => d_Tree_list h ⟨rfl, rfl⟩) (fun g4 e => ?_)
    refine wp_p (j := J_Tree_remove) 1 (pc' := 21) (lv' := [(2, .ref z2), (0, .ref v0), (1, .int v1)]) (st' := [.ref v0]) rfl ?_
    refine x_gQ e rfl rfl fd_10_0 rfl (fun z5 e => ?_)
    refine wp_p (j := J_Tree_remove) 1 (pc' := 25) (lv' := [(2, .ref z2), (0, .ref v0), (1, .int v1)]) (st' := [.ref z2, .ref z5]) rfl ?_
    refine x_gI e rfl rfl fd_7_2 rfl (fun z6 e => ?_)
    refine x_aQ e rfl rfl rfl (fun z7 e => ?_)
    refine wp_p (j := J_Tree_remove) 4 (pc' := 34) (lv' := [(4, .int (-1)), (3, .ref z7), (2, .ref z2), (0, .ref v0), (1, .int v1)]) (st' := [.ref z7]) rfl ?_
    refine x_gI e rfl rfl fd_7_3 rfl (fun z8 e => ?_)
    refine wp_p (j := J_Tree_remove) 1 (pc' := 39) (lv' := [(5, .int z8), (4, .int (-1)), (3, .ref z7), (2, .ref z2), (0, .ref v0), (1, .int v1)]) (st' := []) rfl ?_
    obtain ⟨z11, h10, e⟩ := bd e
    refine wp_lv (lv' := [(0, .ref v0), (1, .int v1), (2, .ref z2), (3, .ref z7), (4, .int (-1)), (5, .int z8)]) rfl ⟨rfl, rfl, rfl, rfl, rfl, rfl, trivial⟩ ?_
    refine l_Tree_remove_39 h10 ?_
    show wp (ab_ext L xs) J_Tree_remove 70 [(0, .ref v0), (1, .int v1), (2, .ref z2), (3, .ref z7), (4, .int z11)] [] (hp g4) Q
    exact wp_lv (lv' := [(0, .ref v0), (1, .int v1), (2, .ref z2), (3, .ref z7), (4, .int z11)]) rfl ⟨rfl, rfl, rfl, rfl, rfl, trivial⟩ (x_Tree_remove_70 e c)
noncomputable def k_Tree_setClass_38 (v0 : Nat) (v2 : Nat) (v3 : Int32) (v4 : Int32) (v8 : Option Nat) (g : g_S) : Option g_S :=
  oc v8
    (fun q1 =>
    (vc g 104 q1 (M_Bytes_clear q1 g)).bind fun g2 =>
    (vc g2 104 q1 (M_Bytes_addAll q1 v2 v3 v4 g2)).bind fun g3 =>
    (rI g3 110 v0 6).bind fun z4 =>
    (wI g3 110 v0 6 (z4 + 1)).bind fun g5 =>
    some g5)
    (
    some g)
set_option maxRecDepth 20000 in
theorem x_Tree_setClass_38 {L : Nat} {xs : Nat → Int32} {Q : Option Value → ab_H → Prop} {v0 : Nat} {v2 : Nat} {v3 : Int32} {v4 : Int32} {v8 : Option Nat} {g : g_S} {out : g_S} (e : k_Tree_setClass_38 v0 v2 v3 v4 v8 g = some out) (c : Q none (hp out)) : wp (ab_ext L xs) J_Tree_setClass 38 [(0, .ref v0), (2, .ref v2), (3, .int v3), (4, .int v4), (8, va_rf v8)] [] (hp g) Q := by
  unfold k_Tree_setClass_38 at e
  rcases v8 with _ | q1
  · replace e := oc_n e
    show wp (ab_ext L xs) J_Tree_setClass 38 [(0, .ref v0), (2, .ref v2), (3, .int v3), (4, .int v4), (8, .null)] [] (hp g) Q
    refine wp_p (j := J_Tree_setClass) 1 (pc' := 40) (lv' := [(0, .ref v0), (2, .ref v2), (3, .int v3), (4, .int v4), (8, .null)]) (st' := [.null]) rfl ?_
    refine wp_b (pc' := 67) (st' := []) rfl rfl rfl ?_
    have e := Option.some.inj e; subst e; exact wp_vret rfl rfl c
  · replace e := oc_s e
    show wp (ab_ext L xs) J_Tree_setClass 38 [(0, .ref v0), (2, .ref v2), (3, .int v3), (4, .int v4), (8, .ref q1)] [] (hp g) Q
    refine wp_p (j := J_Tree_setClass) 1 (pc' := 40) (lv' := [(0, .ref v0), (2, .ref v2), (3, .int v3), (4, .int v4), (8, .ref q1)]) (st' := [.ref q1]) rfl ?_
    refine wp_b (pc' := 43) (st' := []) rfl rfl rfl ?_
    refine wp_p (j := J_Tree_setClass) 1 (pc' := 45) (lv' := [(0, .ref v0), (2, .ref v2), (3, .int v3), (4, .int v4), (8, .ref q1)]) (st' := [.ref q1]) rfl ?_
    refine x_cv0 (As := []) (rest := []) e rfl rfl rfl rfl rfl rfl (fun h => d_Bytes_clear h ⟨rfl, rfl⟩) (fun g2 e => ?_)
    refine wp_p (j := J_Tree_setClass) 4 (pc' := 54) (lv' := [(0, .ref v0), (2, .ref v2), (3, .int v3), (4, .int v4), (8, .ref q1)]) (st' := [.int v4, .int v3, .ref v2, .ref q1]) rfl ?_
    refine x_cv0 (As := [.ref v2, .int v3, .int v4]) (rest := []) e rfl rfl rfl rfl rfl rfl (fun h => d_Bytes_addAll h ⟨rfl, rfl⟩) (fun g3 e => ?_)
    refine wp_p (j := J_Tree_setClass) 2 (pc' := 59) (lv' := [(0, .ref v0), (2, .ref v2), (3, .int v3), (4, .int v4), (8, .ref q1)]) (st' := [.ref v0, .ref v0]) rfl ?_
    refine x_gI e rfl rfl fd_10_6 rfl (fun z4 e => ?_)
    refine wp_p (j := J_Tree_setClass) 2 (pc' := 64) (lv' := [(0, .ref v0), (2, .ref v2), (3, .int v3), (4, .int v4), (8, .ref q1)]) (st' := [.int (z4 + 1), .ref v0]) rfl ?_
    refine x_pI e rfl rfl fw_10_6 rfl (fun g5 e => ?_)
    have e := Option.some.inj e; subst e; exact wp_vret rfl rfl c
noncomputable def M_Tree_setClass (v0 : Nat) (v1 : Int32) (v2 : Nat) (v3 : Int32) (v4 : Int32) (g : g_S) : Option g_S :=
  (rQ g 110 v0 0).bind fun z1 =>
  (aQ g 5 z1 v1).bind fun z2 =>
  (M_Bytes_pack_1 1000025 g).bind fun z3 =>
  (vc g 107 z2 (M_Node_find z2 z3 g)).bind fun z4 =>
  oc z4
    (fun q5 =>
    k_Tree_setClass_38 v0 v2 v3 v4 (some q5) g)
    (
    c2 (vc g 107 z2 (M_Node_addAttribute z2 z3 g)) fun z6 g7 =>
    oc z6
      (fun q8 =>
      k_Tree_setClass_38 v0 v2 v3 v4 (some q8) g7)
      (
      k_Tree_setClass_38 v0 v2 v3 v4 none g7))
set_option maxRecDepth 20000 in
theorem d_Tree_setClass {L : Nat} {xs : Nat → Int32} {Q : Option Value → ab_H → Prop} {v0 : Nat} {v1 : Int32} {v2 : Nat} {v3 : Int32} {v4 : Int32} {g : g_S} {out : g_S} (e : M_Tree_setClass v0 v1 v2 v3 v4 g = some out) (c : Q none (hp out)) : mw (ab_ext L xs) J_Tree_setClass [.ref v0, .int v1, .ref v2, .int v3, .int v4] (hp g) Q := by
  unfold M_Tree_setClass at e
  refine wp_p (j := J_Tree_setClass) 1 (pc' := 1) (lv' := [(0, .ref v0), (1, .int v1), (2, .ref v2), (3, .int v3), (4, .int v4)]) (st' := [.ref v0]) rfl ?_
  refine x_gQ e rfl rfl fd_10_0 rfl (fun z1 e => ?_)
  refine wp_p (j := J_Tree_setClass) 1 (pc' := 5) (lv' := [(0, .ref v0), (1, .int v1), (2, .ref v2), (3, .int v3), (4, .int v4)]) (st' := [.int v1, .ref z1]) rfl ?_
  refine x_aQ e rfl rfl rfl (fun z2 e => ?_)
  refine wp_p (j := J_Tree_setClass) 1 (pc' := 8) (lv' := [(5, .ref z2), (0, .ref v0), (1, .int v1), (2, .ref v2), (3, .int v3), (4, .int v4)]) (st' := []) rfl ?_
  refine x_ls rfl rfl ?_
  refine x_cs1 (As := [.ref 1000025]) (rest := []) Value.long e rfl rfl rfl rfl rfl (fun h => d_Bytes_pack_1 h ⟨rfl, rfl⟩) (fun z3 e => ?_)
  refine wp_p (j := J_Tree_setClass) 3 (pc' := 19) (lv' := [(6, .long z3), (5, .ref z2), (0, .ref v0), (1, .int v1), (2, .ref v2), (3, .int v3), (4, .int v4)]) (st' := [.long z3, .ref z2]) rfl ?_
  refine x_cv1 (As := [.long z3]) (rest := []) va_rf e rfl rfl rfl rfl rfl rfl (fun h => d_Node_find h ⟨rfl, rfl⟩) (fun z4 e => ?_)
  rcases z4 with _ | q5
  · replace e := oc_n e
    show wp (ab_ext L xs) J_Tree_setClass 22 [(6, .long z3), (5, .ref z2), (0, .ref v0), (1, .int v1), (2, .ref v2), (3, .int v3), (4, .int v4)] [.null] (hp g) Q
    refine wp_p (j := J_Tree_setClass) 2 (pc' := 26) (lv' := [(8, .null), (6, .long z3), (5, .ref z2), (0, .ref v0), (1, .int v1), (2, .ref v2), (3, .int v3), (4, .int v4)]) (st' := [.null]) rfl ?_
    refine wp_b (pc' := 29) (st' := []) rfl rfl rfl ?_
    refine wp_p (j := J_Tree_setClass) 2 (pc' := 33) (lv' := [(8, .null), (6, .long z3), (5, .ref z2), (0, .ref v0), (1, .int v1), (2, .ref v2), (3, .int v3), (4, .int v4)]) (st' := [.long z3, .ref z2]) rfl ?_
    refine x_cv2 (As := [.long z3]) (rest := []) va_rf e rfl rfl rfl rfl rfl rfl (fun h => d_Node_addAttribute h ⟨rfl, rfl⟩) (fun z6 g7 e => ?_)
    rcases z6 with _ | q8
    · replace e := oc_n e
      show wp (ab_ext L xs) J_Tree_setClass 36 [(8, .null), (6, .long z3), (5, .ref z2), (0, .ref v0), (1, .int v1), (2, .ref v2), (3, .int v3), (4, .int v4)] [.null] (hp g7) Q
      refine wp_p (j := J_Tree_setClass) 1 (pc' := 38) (lv' := [(8, .null), (6, .long z3), (5, .ref z2), (0, .ref v0), (1, .int v1), (2, .ref v2), (3, .int v3), (4, .int v4)]) (st' := []) rfl ?_
      exact wp_lv (lv' := [(0, .ref v0), (2, .ref v2), (3, .int v3), (4, .int v4), (8, va_rf none)]) rfl ⟨rfl, rfl, rfl, rfl, rfl, trivial⟩ (x_Tree_setClass_38 e c)
    · replace e := oc_s e
      show wp (ab_ext L xs) J_Tree_setClass 36 [(8, .null), (6, .long z3), (5, .ref z2), (0, .ref v0), (1, .int v1), (2, .ref v2), (3, .int v3), (4, .int v4)] [.ref q8] (hp g7) Q
      refine wp_p (j := J_Tree_setClass) 1 (pc' := 38) (lv' := [(8, .ref q8), (6, .long z3), (5, .ref z2), (0, .ref v0), (1, .int v1), (2, .ref v2), (3, .int v3), (4, .int v4)]) (st' := []) rfl ?_
      exact wp_lv (lv' := [(0, .ref v0), (2, .ref v2), (3, .int v3), (4, .int v4), (8, va_rf (some q8))]) rfl ⟨rfl, rfl, rfl, rfl, rfl, trivial⟩ (x_Tree_setClass_38 e c)
  · replace e := oc_s e
    show wp (ab_ext L xs) J_Tree_setClass 22 [(6, .long z3), (5, .ref z2), (0, .ref v0), (1, .int v1), (2, .ref v2), (3, .int v3), (4, .int v4)] [.ref q5] (hp g) Q
    refine wp_p (j := J_Tree_setClass) 2 (pc' := 26) (lv' := [(8, .ref q5), (6, .long z3), (5, .ref z2), (0, .ref v0), (1, .int v1), (2, .ref v2), (3, .int v3), (4, .int v4)]) (st' := [.ref q5]) rfl ?_
    refine wp_b (pc' := 38) (st' := []) rfl rfl rfl ?_
    exact wp_lv (lv' := [(0, .ref v0), (2, .ref v2), (3, .int v3), (4, .int v4), (8, va_rf (some q5))]) rfl ⟨rfl, rfl, rfl, rfl, rfl, trivial⟩ (x_Tree_setClass_38 e c)
noncomputable def M_Acts_runAdd (v0 : Nat) (v1 : Int32) (v2 : Nat) (v3 : Int32) (v4 : Int32) (g : g_S) : Option (Int32 × g_S) :=
  (M_Bytes_isName v2 v3 v4 g).bind fun z1 =>
  if z1 = 0 then
    some (0, g)
  else
    (rQ g 100 v0 0).bind fun z2 =>
    (rQ g 110 z2 0).bind fun z3 =>
    (aQ g 5 z3 v1).bind fun z4 =>
    (vc g 107 z4 (M_Node_isEmptyTag z4 g)).bind fun z5 =>
    if z5 = 0 then
      (rQ g 100 v0 0).bind fun z6 =>
      (vc g 110 z6 (M_Tree_hasRoom z6 v1 g)).bind fun z7 =>
      if z7 = 0 then
        some (1, g)
      else
        (M_Bytes_pack v2 v3 v4 g).bind fun z8 =>
        (rQ g 100 v0 0).bind fun z9 =>
        (rQ g 100 v0 0).bind fun z10 =>
        (vc g 110 z10 (M_Tree_tagOf z10 z8 g)).bind fun z11 =>
        c2 (vc g 110 z9 (M_Tree_grow z9 v1 z11 z8 g)) fun z12 g13 =>
        some (1, g13)
    else
      some (1, g)
set_option maxRecDepth 20000 in
theorem d_Acts_runAdd {L : Nat} {xs : Nat → Int32} {Q : Option Value → ab_H → Prop} {v0 : Nat} {v1 : Int32} {v2 : Nat} {v3 : Int32} {v4 : Int32} {g : g_S} {out : Int32 × g_S} (e : M_Acts_runAdd v0 v1 v2 v3 v4 g = some out) (c : Q (some (.int out.1)) (hp out.2)) : mw (ab_ext L xs) J_Acts_runAdd [.ref v0, .int v1, .ref v2, .int v3, .int v4] (hp g) Q := by
  unfold M_Acts_runAdd at e
  refine wp_p (j := J_Acts_runAdd) 3 (pc' := 4) (lv' := [(0, .ref v0), (1, .int v1), (2, .ref v2), (3, .int v3), (4, .int v4)]) (st' := [.int v4, .int v3, .ref v2]) rfl ?_
  refine x_cs1 (As := [.ref v2, .int v3, .int v4]) (rest := []) Value.int e rfl rfl rfl rfl rfl (fun h => d_Bytes_isName h ⟨rfl, rfl⟩) (fun z1 e => ?_)
  refine z_ne e rfl (fun e => ?_) (fun e => ?_)
  · refine wp_p (j := J_Acts_runAdd) 1 (pc' := 11) (lv' := [(0, .ref v0), (1, .int v1), (2, .ref v2), (3, .int v3), (4, .int v4)]) (st' := [.int 0]) rfl ?_
    have e := Option.some.inj e; subst e; exact wp_iret (ty := .boolean) rfl rfl (by decide) c
  · refine wp_p (j := J_Acts_runAdd) 1 (pc' := 13) (lv' := [(0, .ref v0), (1, .int v1), (2, .ref v2), (3, .int v3), (4, .int v4)]) (st' := [.ref v0]) rfl ?_
    refine x_gQ e rfl rfl fd_0_0 rfl (fun z2 e => ?_)
    refine x_gQ e rfl rfl fd_10_0 rfl (fun z3 e => ?_)
    refine wp_p (j := J_Acts_runAdd) 1 (pc' := 20) (lv' := [(0, .ref v0), (1, .int v1), (2, .ref v2), (3, .int v3), (4, .int v4)]) (st' := [.int v1, .ref z3]) rfl ?_
    refine x_aQ e rfl rfl rfl (fun z4 e => ?_)
    refine x_cv1 (As := []) (rest := []) Value.int e rfl rfl rfl rfl rfl rfl (fun h => d_Node_isEmptyTag h ⟨rfl, rfl⟩) (fun z5 e => ?_)
    refine z_ne e rfl (fun e => ?_) (fun e => ?_)
    · refine wp_p (j := J_Acts_runAdd) 1 (pc' := 28) (lv' := [(0, .ref v0), (1, .int v1), (2, .ref v2), (3, .int v3), (4, .int v4)]) (st' := [.ref v0]) rfl ?_
      refine x_gQ e rfl rfl fd_0_0 rfl (fun z6 e => ?_)
      refine wp_p (j := J_Acts_runAdd) 1 (pc' := 32) (lv' := [(0, .ref v0), (1, .int v1), (2, .ref v2), (3, .int v3), (4, .int v4)]) (st' := [.int v1, .ref z6]) rfl ?_
      refine x_cv1 (As := [.int v1]) (rest := []) Value.int e rfl rfl rfl rfl rfl rfl (fun h => d_Tree_hasRoom h ⟨rfl, rfl⟩) (fun z7 e => ?_)
      refine z_eq e rfl (fun e => ?_) (fun e => ?_)
      · refine wp_p (j := J_Acts_runAdd) 1 (pc' := 68) (lv' := [(0, .ref v0), (1, .int v1), (2, .ref v2), (3, .int v3), (4, .int v4)]) (st' := [.int 1]) rfl ?_
        have e := Option.some.inj e; subst e; exact wp_iret (ty := .boolean) rfl rfl (by decide) c
      · refine wp_p (j := J_Acts_runAdd) 3 (pc' := 42) (lv' := [(0, .ref v0), (1, .int v1), (2, .ref v2), (3, .int v3), (4, .int v4)]) (st' := [.int v4, .int v3, .ref v2]) rfl ?_
        refine x_cs1 (As := [.ref v2, .int v3, .int v4]) (rest := []) Value.long e rfl rfl rfl rfl rfl (fun h => d_Bytes_pack h ⟨rfl, rfl⟩) (fun z8 e => ?_)
        refine wp_p (j := J_Acts_runAdd) 2 (pc' := 48) (lv' := [(5, .long z8), (0, .ref v0), (1, .int v1), (2, .ref v2), (3, .int v3), (4, .int v4)]) (st' := [.ref v0]) rfl ?_
        refine x_gQ e rfl rfl fd_0_0 rfl (fun z9 e => ?_)
        refine wp_p (j := J_Acts_runAdd) 2 (pc' := 53) (lv' := [(5, .long z8), (0, .ref v0), (1, .int v1), (2, .ref v2), (3, .int v3), (4, .int v4)]) (st' := [.ref v0, .int v1, .ref z9]) rfl ?_
        refine x_gQ e rfl rfl fd_0_0 rfl (fun z10 e => ?_)
        refine wp_p (j := J_Acts_runAdd) 1 (pc' := 58) (lv' := [(5, .long z8), (0, .ref v0), (1, .int v1), (2, .ref v2), (3, .int v3), (4, .int v4)]) (st' := [.long z8, .ref z10, .int v1, .ref z9]) rfl ?_
        refine x_cv1 (As := [.long z8]) (rest := [.int v1, .ref z9]) Value.int e rfl rfl rfl rfl rfl rfl (fun h => d_Tree_tagOf h ⟨rfl, rfl⟩) (fun z11 e => ?_)
        refine wp_p (j := J_Acts_runAdd) 1 (pc' := 63) (lv' := [(5, .long z8), (0, .ref v0), (1, .int v1), (2, .ref v2), (3, .int v3), (4, .int v4)]) (st' := [.long z8, .int z11, .int v1, .ref z9]) rfl ?_
        refine x_cv2 (As := [.int v1, .int z11, .long z8]) (rest := []) Value.int e rfl rfl rfl rfl rfl rfl (fun h => d_Tree_grow h ⟨rfl, rfl⟩) (fun z12 g13 e => ?_)
        refine wp_p (j := J_Acts_runAdd) 2 (pc' := 68) (lv' := [(5, .long z8), (0, .ref v0), (1, .int v1), (2, .ref v2), (3, .int v3), (4, .int v4)]) (st' := [.int 1]) rfl ?_
        have e := Option.some.inj e; subst e; exact wp_iret (ty := .boolean) rfl rfl (by decide) c
    · refine wp_p (j := J_Acts_runAdd) 1 (pc' := 68) (lv' := [(0, .ref v0), (1, .int v1), (2, .ref v2), (3, .int v3), (4, .int v4)]) (st' := [.int 1]) rfl ?_
      have e := Option.some.inj e; subst e; exact wp_iret (ty := .boolean) rfl rfl (by decide) c
noncomputable def M_Net_readStore (v0 : Nat) (v1 : Int64) (g : g_S) : Option Int64 :=
  (rQ g 106 v0 7).bind fun z1 =>
  (rI g 106 v0 8).bind fun z2 =>
  (rQ g 106 v0 13).bind fun z3 =>
  (rL g 101 z3 1).bind fun z4 =>
  (M_Net_rowOf z1 z2 z4 v1 g).bind fun z5 =>
  (rI g 106 v0 8).bind fun z6 =>
  if z5 < z6 then
    (rQ g 106 v0 7).bind fun z7 =>
    (aL g z7 ((3 * z5) + 2)).bind fun z8 =>
    some z8
  else
    some 0
set_option maxRecDepth 20000 in
theorem d_Net_readStore {L : Nat} {xs : Nat → Int32} {Q : Option Value → ab_H → Prop} {v0 : Nat} {v1 : Int64} {g : g_S} {out : Int64} (e : M_Net_readStore v0 v1 g = some out) (c : Q (some (.long out)) (hp g)) : mw (ab_ext L xs) J_Net_readStore [.ref v0, .long v1] (hp g) Q := by
  unfold M_Net_readStore at e
  refine wp_p (j := J_Net_readStore) 1 (pc' := 1) (lv' := [(0, .ref v0), (1, .long v1)]) (st' := [.ref v0]) rfl ?_
  refine x_gQ e rfl rfl fd_6_7 rfl (fun z1 e => ?_)
  refine wp_p (j := J_Net_readStore) 1 (pc' := 5) (lv' := [(0, .ref v0), (1, .long v1)]) (st' := [.ref v0, .ref z1]) rfl ?_
  refine x_gI e rfl rfl fd_6_8 rfl (fun z2 e => ?_)
  refine wp_p (j := J_Net_readStore) 1 (pc' := 9) (lv' := [(0, .ref v0), (1, .long v1)]) (st' := [.ref v0, .int z2, .ref z1]) rfl ?_
  refine x_gQ e rfl rfl fd_6_13 rfl (fun z3 e => ?_)
  refine x_gL e rfl rfl fd_1_1 rfl (fun z4 e => ?_)
  refine wp_p (j := J_Net_readStore) 1 (pc' := 16) (lv' := [(0, .ref v0), (1, .long v1)]) (st' := [.long v1, .long z4, .int z2, .ref z1]) rfl ?_
  refine x_cs1 (As := [.ref z1, .int z2, .long z4, .long v1]) (rest := []) Value.int e rfl rfl rfl rfl rfl (fun h => d_Net_rowOf h ⟨rfl, rfl⟩) (fun z5 e => ?_)
  refine wp_p (j := J_Net_readStore) 3 (pc' := 22) (lv' := [(3, .int z5), (0, .ref v0), (1, .long v1)]) (st' := [.ref v0, .int z5]) rfl ?_
  refine x_gI e rfl rfl fd_6_8 rfl (fun z6 e => ?_)
  refine x_ge e rfl (fun e => ?_) (fun e => ?_)
  · refine wp_p (j := J_Net_readStore) 1 (pc' := 29) (lv' := [(3, .int z5), (0, .ref v0), (1, .long v1)]) (st' := [.ref v0]) rfl ?_
    refine x_gQ e rfl rfl fd_6_7 rfl (fun z7 e => ?_)
    refine wp_p (j := J_Net_readStore) 5 (pc' := 37) (lv' := [(3, .int z5), (0, .ref v0), (1, .long v1)]) (st' := [.int ((3 * z5) + 2), .ref z7]) rfl ?_
    refine x_aL e rfl rfl (fun z8 e => ?_)
    refine wp_p (j := J_Net_readStore) 1 (pc' := 42) (lv' := [(3, .int z5), (0, .ref v0), (1, .long v1)]) (st' := [.long z8]) rfl ?_
    have e := Option.some.inj e; subst e; exact wp_lret rfl rfl c
  · refine wp_p (j := J_Net_readStore) 1 (pc' := 42) (lv' := [(3, .int z5), (0, .ref v0), (1, .long v1)]) (st' := [.long 0]) rfl ?_
    have e := Option.some.inj e; subst e; exact wp_lret rfl rfl c
noncomputable def M_Acts_lookUp (v0 : Nat) (v1 : Nat) (v2 : Int32) (v3 : Int32) (g : g_S) : Option (Int32 × g_S) :=
  (M_Bytes_isName v1 v2 v3 g).bind fun z1 =>
  if z1 = 0 then
    some (0, g)
  else
    (rQ g 100 v0 19).bind fun z2 =>
    (vc g 104 z2 (M_Bytes_clear z2 g)).bind fun g3 =>
    (rQ g3 100 v0 19).bind fun z4 =>
    (rQ g3 100 v0 1).bind fun z5 =>
    (M_Bytes_pack v1 v2 v3 g3).bind fun z6 =>
    (vc g3 106 z5 (M_Net_readStore z5 z6 g3)).bind fun z7 =>
    (vc g3 104 z4 (M_Bytes_addPacked z4 z7 g3)).bind fun g8 =>
    some (1, g8)
set_option maxRecDepth 20000 in
theorem d_Acts_lookUp {L : Nat} {xs : Nat → Int32} {Q : Option Value → ab_H → Prop} {v0 : Nat} {v1 : Nat} {v2 : Int32} {v3 : Int32} {g : g_S} {out : Int32 × g_S} (e : M_Acts_lookUp v0 v1 v2 v3 g = some out) (c : Q (some (.int out.1)) (hp out.2)) : mw (ab_ext L xs) J_Acts_lookUp [.ref v0, .ref v1, .int v2, .int v3] (hp g) Q := by
  unfold M_Acts_lookUp at e
  refine wp_p (j := J_Acts_lookUp) 3 (pc' := 3) (lv' := [(0, .ref v0), (1, .ref v1), (2, .int v2), (3, .int v3)]) (st' := [.int v3, .int v2, .ref v1]) rfl ?_
  refine x_cs1 (As := [.ref v1, .int v2, .int v3]) (rest := []) Value.int e rfl rfl rfl rfl rfl (fun h => d_Bytes_isName h ⟨rfl, rfl⟩) (fun z1 e => ?_)
  refine z_ne e rfl (fun e => ?_) (fun e => ?_)
  · refine wp_p (j := J_Acts_lookUp) 1 (pc' := 10) (lv' := [(0, .ref v0), (1, .ref v1), (2, .int v2), (3, .int v3)]) (st' := [.int 0]) rfl ?_
    have e := Option.some.inj e; subst e; exact wp_iret (ty := .boolean) rfl rfl (by decide) c
  · refine wp_p (j := J_Acts_lookUp) 1 (pc' := 12) (lv' := [(0, .ref v0), (1, .ref v1), (2, .int v2), (3, .int v3)]) (st' := [.ref v0]) rfl ?_
    refine x_gQ e rfl rfl fd_0_19 rfl (fun z2 e => ?_)
    refine x_cv0 (As := []) (rest := []) e rfl rfl rfl rfl rfl rfl (fun h => d_Bytes_clear h ⟨rfl, rfl⟩) (fun g3 e => ?_)
    refine wp_p (j := J_Acts_lookUp) 1 (pc' := 19) (lv' := [(0, .ref v0), (1, .ref v1), (2, .int v2), (3, .int v3)]) (st' := [.ref v0]) rfl ?_
    refine x_gQ e rfl rfl fd_0_19 rfl (fun z4 e => ?_)
    refine wp_p (j := J_Acts_lookUp) 1 (pc' := 23) (lv' := [(0, .ref v0), (1, .ref v1), (2, .int v2), (3, .int v3)]) (st' := [.ref v0, .ref z4]) rfl ?_
    refine x_gQ e rfl rfl fd_0_1 rfl (fun z5 e => ?_)
    refine wp_p (j := J_Acts_lookUp) 3 (pc' := 29) (lv' := [(0, .ref v0), (1, .ref v1), (2, .int v2), (3, .int v3)]) (st' := [.int v3, .int v2, .ref v1, .ref z5, .ref z4]) rfl ?_
    refine x_cs1 (As := [.ref v1, .int v2, .int v3]) (rest := [.ref z5, .ref z4]) Value.long e rfl rfl rfl rfl rfl (fun h => d_Bytes_pack h ⟨rfl, rfl⟩) (fun z6 e => ?_)
    refine x_cv1 (As := [.long z6]) (rest := [.ref z4]) Value.long e rfl rfl rfl rfl rfl rfl (fun h => d_Net_readStore h ⟨rfl, rfl⟩) (fun z7 e => ?_)
    refine x_cv0 (As := [.long z7]) (rest := []) e rfl rfl rfl rfl rfl rfl (fun h => d_Bytes_addPacked h ⟨rfl, rfl⟩) (fun g8 e => ?_)
    refine wp_p (j := J_Acts_lookUp) 1 (pc' := 39) (lv' := [(0, .ref v0), (1, .ref v1), (2, .int v2), (3, .int v3)]) (st' := [.int 1]) rfl ?_
    have e := Option.some.inj e; subst e; exact wp_iret (ty := .boolean) rfl rfl (by decide) c
noncomputable def k_Acts_runOnNode_241 (v0 : Nat) (v2 : Nat) (v4 : Int32) (v5 : Int32) (v6 : Int32) (g : g_S) : Option (Int32 × g_S) :=
  c2 (vc g 100 v0 (M_Acts_lookUp v0 v2 (v5 + 1) v4 g)) fun z1 g2 =>
  if z1 = 0 then
    some (0, g2)
  else
    (rQ g2 100 v0 0).bind fun z3 =>
    (rQ g2 100 v0 19).bind fun z4 =>
    (rQ g2 104 z4 1).bind fun z5 =>
    (rQ g2 100 v0 19).bind fun z6 =>
    (rI g2 104 z6 2).bind fun z7 =>
    (vc g2 110 z3 (M_Tree_setText z3 v6 z5 0 z7 g2)).bind fun g8 =>
    some (1, g8)
set_option maxRecDepth 20000 in
theorem x_Acts_runOnNode_241 {L : Nat} {xs : Nat → Int32} {Q : Option Value → ab_H → Prop} {v0 : Nat} {v2 : Nat} {v4 : Int32} {v5 : Int32} {v6 : Int32} {g : g_S} {out : Int32 × g_S} (e : k_Acts_runOnNode_241 v0 v2 v4 v5 v6 g = some out) (c : Q (some (.int out.1)) (hp out.2)) : wp (ab_ext L xs) J_Acts_runOnNode 241 [(0, .ref v0), (2, .ref v2), (4, .int v4), (5, .int v5), (6, .int v6)] [] (hp g) Q := by
  unfold k_Acts_runOnNode_241 at e
  refine wp_p (j := J_Acts_runOnNode) 6 (pc' := 249) (lv' := [(0, .ref v0), (2, .ref v2), (4, .int v4), (5, .int v5), (6, .int v6)]) (st' := [.int v4, .int (v5 + 1), .ref v2, .ref v0]) rfl ?_
  refine x_cv2 (As := [.ref v2, .int (v5 + 1), .int v4]) (rest := []) Value.int e rfl rfl rfl rfl rfl rfl (fun h => d_Acts_lookUp h ⟨rfl, rfl⟩) (fun z1 g2 e => ?_)
  refine z_ne e rfl (fun e => ?_) (fun e => ?_)
  · refine wp_p (j := J_Acts_runOnNode) 1 (pc' := 256) (lv' := [(0, .ref v0), (2, .ref v2), (4, .int v4), (5, .int v5), (6, .int v6)]) (st' := [.int 0]) rfl ?_
    have e := Option.some.inj e; subst e; exact wp_iret (ty := .boolean) rfl rfl (by decide) c
  · refine wp_p (j := J_Acts_runOnNode) 1 (pc' := 258) (lv' := [(0, .ref v0), (2, .ref v2), (4, .int v4), (5, .int v5), (6, .int v6)]) (st' := [.ref v0]) rfl ?_
    refine x_gQ e rfl rfl fd_0_0 rfl (fun z3 e => ?_)
    refine wp_p (j := J_Acts_runOnNode) 2 (pc' := 264) (lv' := [(0, .ref v0), (2, .ref v2), (4, .int v4), (5, .int v5), (6, .int v6)]) (st' := [.ref v0, .int v6, .ref z3]) rfl ?_
    refine x_gQ e rfl rfl fd_0_19 rfl (fun z4 e => ?_)
    refine x_gQ e rfl rfl fd_4_1 rfl (fun z5 e => ?_)
    refine wp_p (j := J_Acts_runOnNode) 2 (pc' := 272) (lv' := [(0, .ref v0), (2, .ref v2), (4, .int v4), (5, .int v5), (6, .int v6)]) (st' := [.ref v0, .int 0, .ref z5, .int v6, .ref z3]) rfl ?_
    refine x_gQ e rfl rfl fd_0_19 rfl (fun z6 e => ?_)
    refine x_gI e rfl rfl fd_4_2 rfl (fun z7 e => ?_)
    refine x_cv0 (As := [.int v6, .ref z5, .int 0, .int z7]) (rest := []) e rfl rfl rfl rfl rfl rfl (fun h => d_Tree_setText h ⟨rfl, rfl⟩) (fun g8 e => ?_)
    refine wp_p (j := J_Acts_runOnNode) 1 (pc' := 282) (lv' := [(0, .ref v0), (2, .ref v2), (4, .int v4), (5, .int v5), (6, .int v6)]) (st' := [.int 1]) rfl ?_
    have e := Option.some.inj e; subst e; exact wp_iret (ty := .boolean) rfl rfl (by decide) c
noncomputable def k_Acts_runOnNode_222 (w0 : Int32) (w1 : Nat) (g : g_S) : Option (Int32 × g_S) :=
  (wI g 100 w1 17 w0).bind fun g1 =>
  some (1, g1)
set_option maxRecDepth 20000 in
theorem x_Acts_runOnNode_222 {L : Nat} {xs : Nat → Int32} {Q : Option Value → ab_H → Prop} {w0 : Int32} {w1 : Nat} {g : g_S} {out : Int32 × g_S} (e : k_Acts_runOnNode_222 w0 w1 g = some out) (c : Q (some (.int out.1)) (hp out.2)) : wp (ab_ext L xs) J_Acts_runOnNode 222 [] [.int w0, .ref w1] (hp g) Q := by
  unfold k_Acts_runOnNode_222 at e
  refine x_pI e rfl rfl fw_0_17 rfl (fun g1 e => ?_)
  refine wp_p (j := J_Acts_runOnNode) 1 (pc' := 226) (lv' := []) (st' := [.int 1]) rfl ?_
  have e := Option.some.inj e; subst e; exact wp_iret (ty := .boolean) rfl rfl (by decide) c
noncomputable def k_Acts_runOnNode_48 (v4 : Int32) (v5 : Int32) (g : g_S) : Option (Int32 × g_S) :=
  if v5 = v4 then
    some (1, g)
  else
    some (0, g)
set_option maxRecDepth 20000 in
theorem x_Acts_runOnNode_48 {L : Nat} {xs : Nat → Int32} {Q : Option Value → ab_H → Prop} {v4 : Int32} {v5 : Int32} {g : g_S} {out : Int32 × g_S} (e : k_Acts_runOnNode_48 v4 v5 g = some out) (c : Q (some (.int out.1)) (hp out.2)) : wp (ab_ext L xs) J_Acts_runOnNode 48 [(4, .int v4), (5, .int v5)] [] (hp g) Q := by
  unfold k_Acts_runOnNode_48 at e
  refine wp_p (j := J_Acts_runOnNode) 2 (pc' := 52) (lv' := [(4, .int v4), (5, .int v5)]) (st' := [.int v4, .int v5]) rfl ?_
  refine x_ne e rfl (fun e => ?_) (fun e => ?_)
  · refine wp_p (j := J_Acts_runOnNode) 2 (pc' := 60) (lv' := [(4, .int v4), (5, .int v5)]) (st' := [.int 1]) rfl ?_
    have e := Option.some.inj e; subst e; exact wp_iret (ty := .boolean) rfl rfl (by decide) c
  · refine wp_p (j := J_Acts_runOnNode) 1 (pc' := 60) (lv' := [(4, .int v4), (5, .int v5)]) (st' := [.int 0]) rfl ?_
    have e := Option.some.inj e; subst e; exact wp_iret (ty := .boolean) rfl rfl (by decide) c
noncomputable def M_Acts_runOnNode (v0 : Nat) (v1 : Int32) (v2 : Nat) (v3 : Int32) (v4 : Int32) (g : g_S) : Option (Int32 × g_S) :=
  (M_Acts_blankAt v2 v3 v4 g).bind fun z1 =>
  c2 (vc g 100 v0 (M_Acts_nodeCalled v0 v2 v3 z1 g)) fun z2 g3 =>
  if z2 = (-1) then
    some (0, g3)
  else
    if v1 = 3 then
      if z1 = v4 then
        (rQ g3 100 v0 0).bind fun z4 =>
        (vc g3 110 z4 (M_Tree_remove z4 z2 g3)).bind fun g5 =>
        k_Acts_runOnNode_48 v4 z1 g5
      else
        k_Acts_runOnNode_48 v4 z1 g3
    else
      if z1 = v4 then
        some (0, g3)
      else
        if v1 = 0 then
          (rQ g3 100 v0 0).bind fun z7 =>
          (vc g3 110 z7 (M_Tree_setText z7 z2 v2 (z1 + 1) v4 g3)).bind fun g8 =>
          some (1, g8)
        else if v1 = 1 then
          (rQ g3 100 v0 0).bind fun z10 =>
          (vc g3 110 z10 (M_Tree_setClass z10 z2 v2 (z1 + 1) v4 g3)).bind fun g11 =>
          some (1, g11)
        else if v1 = 2 then
          c2 (vc g3 100 v0 (M_Acts_runAdd v0 z2 v2 (z1 + 1) v4 g3)) fun z13 g14 =>
          (tz z13).bind fun z15 =>
          some (z15, g14)
        else if v1 = 3 then
          k_Acts_runOnNode_241 v0 v2 v4 z1 z2 g3
        else if v1 = 4 then
          (rQ g3 100 v0 0).bind fun z19 =>
          (rQ g3 110 z19 0).bind fun z20 =>
          (aQ g3 5 z20 z2).bind fun z21 =>
          (rI g3 107 z21 0).bind fun z22 =>
          if z22 = 13 then
            (rQ g3 100 v0 0).bind fun z23 =>
            (rQ g3 110 z23 0).bind fun z24 =>
            (aQ g3 5 z24 z2).bind fun z25 =>
            (vc g3 107 z25 (M_Node_setValue z25 v2 (z1 + 1) v4 g3)).bind fun g26 =>
            some (1, g26)
          else
            some (1, g3)
        else if v1 = 5 then
          k_Acts_runOnNode_241 v0 v2 v4 z1 z2 g3
        else if v1 = 6 then
          (rQ g3 100 v0 1).bind fun z29 =>
          (rQ g3 106 z29 14).bind fun z30 =>
          (rQ g3 100 v0 1).bind fun z31 =>
          (rQ g3 106 z31 13).bind fun z32 =>
          c2 (vc g3 101 z30 (M_Address_read z30 v2 (z1 + 1) v4 z32 g3)) fun z33 g34 =>
          if z33 = 0 then
            k_Acts_runOnNode_222 (-1) v0 g34
          else
            k_Acts_runOnNode_222 z2 v0 g34
        else
          k_Acts_runOnNode_241 v0 v2 v4 z1 z2 g3
set_option maxRecDepth 20000 in
theorem d_Acts_runOnNode {L : Nat} {xs : Nat → Int32} {Q : Option Value → ab_H → Prop} {v0 : Nat} {v1 : Int32} {v2 : Nat} {v3 : Int32} {v4 : Int32} {g : g_S} {out : Int32 × g_S} (e : M_Acts_runOnNode v0 v1 v2 v3 v4 g = some out) (c : Q (some (.int out.1)) (hp out.2)) : mw (ab_ext L xs) J_Acts_runOnNode [.ref v0, .int v1, .ref v2, .int v3, .int v4] (hp g) Q := by
  unfold M_Acts_runOnNode at e
  refine wp_p (j := J_Acts_runOnNode) 3 (pc' := 4) (lv' := [(0, .ref v0), (1, .int v1), (2, .ref v2), (3, .int v3), (4, .int v4)]) (st' := [.int v4, .int v3, .ref v2]) rfl ?_
  refine x_cs1 (As := [.ref v2, .int v3, .int v4]) (rest := []) Value.int e rfl rfl rfl rfl rfl (fun h => d_Acts_blankAt h ⟨rfl, rfl⟩) (fun z1 e => ?_)
  refine wp_p (j := J_Acts_runOnNode) 5 (pc' := 14) (lv' := [(5, .int z1), (0, .ref v0), (1, .int v1), (2, .ref v2), (3, .int v3), (4, .int v4)]) (st' := [.int z1, .int v3, .ref v2, .ref v0]) rfl ?_
  refine x_cv2 (As := [.ref v2, .int v3, .int z1]) (rest := []) Value.int e rfl rfl rfl rfl rfl rfl (fun h => d_Acts_nodeCalled h ⟨rfl, rfl⟩) (fun z2 g3 e => ?_)
  refine wp_p (j := J_Acts_runOnNode) 3 (pc' := 22) (lv' := [(6, .int z2), (5, .int z1), (0, .ref v0), (1, .int v1), (2, .ref v2), (3, .int v3), (4, .int v4)]) (st' := [.int (-1), .int z2]) rfl ?_
  refine x_ne e rfl (fun e => ?_) (fun e => ?_)
  · refine wp_p (j := J_Acts_runOnNode) 1 (pc' := 26) (lv' := [(6, .int z2), (5, .int z1), (0, .ref v0), (1, .int v1), (2, .ref v2), (3, .int v3), (4, .int v4)]) (st' := [.int 0]) rfl ?_
    have e := Option.some.inj e; subst e; exact wp_iret (ty := .boolean) rfl rfl (by decide) c
  · refine wp_p (j := J_Acts_runOnNode) 2 (pc' := 29) (lv' := [(6, .int z2), (5, .int z1), (0, .ref v0), (1, .int v1), (2, .ref v2), (3, .int v3), (4, .int v4)]) (st' := [.int 3, .int v1]) rfl ?_
    refine x_ne e rfl (fun e => ?_) (fun e => ?_)
    · refine wp_p (j := J_Acts_runOnNode) 2 (pc' := 36) (lv' := [(6, .int z2), (5, .int z1), (0, .ref v0), (1, .int v1), (2, .ref v2), (3, .int v3), (4, .int v4)]) (st' := [.int v4, .int z1]) rfl ?_
      refine x_ne e rfl (fun e => ?_) (fun e => ?_)
      · refine wp_p (j := J_Acts_runOnNode) 1 (pc' := 40) (lv' := [(6, .int z2), (5, .int z1), (0, .ref v0), (1, .int v1), (2, .ref v2), (3, .int v3), (4, .int v4)]) (st' := [.ref v0]) rfl ?_
        refine x_gQ e rfl rfl fd_0_0 rfl (fun z4 e => ?_)
        refine wp_p (j := J_Acts_runOnNode) 1 (pc' := 45) (lv' := [(6, .int z2), (5, .int z1), (0, .ref v0), (1, .int v1), (2, .ref v2), (3, .int v3), (4, .int v4)]) (st' := [.int z2, .ref z4]) rfl ?_
        refine x_cv0 (As := [.int z2]) (rest := []) e rfl rfl rfl rfl rfl rfl (fun h => d_Tree_remove h ⟨rfl, rfl⟩) (fun g5 e => ?_)
        exact wp_lv (lv' := [(4, .int v4), (5, .int z1)]) rfl ⟨rfl, rfl, trivial⟩ (x_Acts_runOnNode_48 e c)
      · exact wp_lv (lv' := [(4, .int v4), (5, .int z1)]) rfl ⟨rfl, rfl, trivial⟩ (x_Acts_runOnNode_48 e c)
    · refine wp_p (j := J_Acts_runOnNode) 2 (pc' := 65) (lv' := [(6, .int z2), (5, .int z1), (0, .ref v0), (1, .int v1), (2, .ref v2), (3, .int v3), (4, .int v4)]) (st' := [.int v4, .int z1]) rfl ?_
      refine x_ne e rfl (fun e => ?_) (fun e => ?_)
      · refine wp_p (j := J_Acts_runOnNode) 1 (pc' := 69) (lv' := [(6, .int z2), (5, .int z1), (0, .ref v0), (1, .int v1), (2, .ref v2), (3, .int v3), (4, .int v4)]) (st' := [.int 0]) rfl ?_
        have e := Option.some.inj e; subst e; exact wp_iret (ty := .boolean) rfl rfl (by decide) c
      · refine wp_p (j := J_Acts_runOnNode) 1 (pc' := 71) (lv' := [(6, .int z2), (5, .int z1), (0, .ref v0), (1, .int v1), (2, .ref v2), (3, .int v3), (4, .int v4)]) (st' := [.int v1]) rfl ?_
        refine x_if e (fun h6 e => ?_) (fun h6 e => ?_)
        · refine x_sw (cst := 0) (pc' := 112) (rest := []) h6 rfl rfl rfl ?_
          refine wp_p (j := J_Acts_runOnNode) 1 (pc' := 113) (lv' := [(6, .int z2), (5, .int z1), (0, .ref v0), (1, .int v1), (2, .ref v2), (3, .int v3), (4, .int v4)]) (st' := [.ref v0]) rfl ?_
          refine x_gQ e rfl rfl fd_0_0 rfl (fun z7 e => ?_)
          refine wp_p (j := J_Acts_runOnNode) 6 (pc' := 125) (lv' := [(6, .int z2), (5, .int z1), (0, .ref v0), (1, .int v1), (2, .ref v2), (3, .int v3), (4, .int v4)]) (st' := [.int v4, .int (z1 + 1), .ref v2, .int z2, .ref z7]) rfl ?_
          refine x_cv0 (As := [.int z2, .ref v2, .int (z1 + 1), .int v4]) (rest := []) e rfl rfl rfl rfl rfl rfl (fun h => d_Tree_setText h ⟨rfl, rfl⟩) (fun g8 e => ?_)
          refine wp_p (j := J_Acts_runOnNode) 1 (pc' := 129) (lv' := [(6, .int z2), (5, .int z1), (0, .ref v0), (1, .int v1), (2, .ref v2), (3, .int v3), (4, .int v4)]) (st' := [.int 1]) rfl ?_
          have e := Option.some.inj e; subst e; exact wp_iret (ty := .boolean) rfl rfl (by decide) c
        refine x_if e (fun h9 e => ?_) (fun h9 e => ?_)
        · refine x_sw (cst := 1) (pc' := 130) (rest := []) h9 rfl rfl rfl ?_
          refine wp_p (j := J_Acts_runOnNode) 1 (pc' := 131) (lv' := [(6, .int z2), (5, .int z1), (0, .ref v0), (1, .int v1), (2, .ref v2), (3, .int v3), (4, .int v4)]) (st' := [.ref v0]) rfl ?_
          refine x_gQ e rfl rfl fd_0_0 rfl (fun z10 e => ?_)
          refine wp_p (j := J_Acts_runOnNode) 6 (pc' := 143) (lv' := [(6, .int z2), (5, .int z1), (0, .ref v0), (1, .int v1), (2, .ref v2), (3, .int v3), (4, .int v4)]) (st' := [.int v4, .int (z1 + 1), .ref v2, .int z2, .ref z10]) rfl ?_
          refine x_cv0 (As := [.int z2, .ref v2, .int (z1 + 1), .int v4]) (rest := []) e rfl rfl rfl rfl rfl rfl (fun h => d_Tree_setClass h ⟨rfl, rfl⟩) (fun g11 e => ?_)
          refine wp_p (j := J_Acts_runOnNode) 1 (pc' := 147) (lv' := [(6, .int z2), (5, .int z1), (0, .ref v0), (1, .int v1), (2, .ref v2), (3, .int v3), (4, .int v4)]) (st' := [.int 1]) rfl ?_
          have e := Option.some.inj e; subst e; exact wp_iret (ty := .boolean) rfl rfl (by decide) c
        refine x_if e (fun h12 e => ?_) (fun h12 e => ?_)
        · refine x_sw (cst := 2) (pc' := 227) (rest := []) h12 rfl rfl rfl ?_
          refine wp_p (j := J_Acts_runOnNode) 7 (pc' := 237) (lv' := [(6, .int z2), (5, .int z1), (0, .ref v0), (1, .int v1), (2, .ref v2), (3, .int v3), (4, .int v4)]) (st' := [.int v4, .int (z1 + 1), .ref v2, .int z2, .ref v0]) rfl ?_
          refine x_cv2 (As := [.int z2, .ref v2, .int (z1 + 1), .int v4]) (rest := []) Value.int e rfl rfl rfl rfl rfl rfl (fun h => d_Acts_runAdd h ⟨rfl, rfl⟩) (fun z13 g14 e => ?_)
          obtain ⟨h16, e⟩ := tz_ok e
          have e := Option.some.inj e; subst e; exact wp_iret (ty := .boolean) rfl rfl h16 c
        refine x_if e (fun h17 e => ?_) (fun h17 e => ?_)
        · refine x_sw (cst := 3) (pc' := 241) (rest := []) h17 rfl rfl rfl ?_
          exact wp_lv (lv' := [(0, .ref v0), (2, .ref v2), (4, .int v4), (5, .int z1), (6, .int z2)]) rfl ⟨rfl, rfl, rfl, rfl, rfl, trivial⟩ (x_Acts_runOnNode_241 e c)
        refine x_if e (fun h18 e => ?_) (fun h18 e => ?_)
        · refine x_sw (cst := 4) (pc' := 148) (rest := []) h18 rfl rfl rfl ?_
          refine wp_p (j := J_Acts_runOnNode) 1 (pc' := 149) (lv' := [(6, .int z2), (5, .int z1), (0, .ref v0), (1, .int v1), (2, .ref v2), (3, .int v3), (4, .int v4)]) (st' := [.ref v0]) rfl ?_
          refine x_gQ e rfl rfl fd_0_0 rfl (fun z19 e => ?_)
          refine x_gQ e rfl rfl fd_10_0 rfl (fun z20 e => ?_)
          refine wp_p (j := J_Acts_runOnNode) 1 (pc' := 157) (lv' := [(6, .int z2), (5, .int z1), (0, .ref v0), (1, .int v1), (2, .ref v2), (3, .int v3), (4, .int v4)]) (st' := [.int z2, .ref z20]) rfl ?_
          refine x_aQ e rfl rfl rfl (fun z21 e => ?_)
          refine x_gI e rfl rfl fd_7_0 rfl (fun z22 e => ?_)
          refine wp_p (j := J_Acts_runOnNode) 1 (pc' := 163) (lv' := [(6, .int z2), (5, .int z1), (0, .ref v0), (1, .int v1), (2, .ref v2), (3, .int v3), (4, .int v4)]) (st' := [.int 13, .int z22]) rfl ?_
          refine x_ne e rfl (fun e => ?_) (fun e => ?_)
          · refine wp_p (j := J_Acts_runOnNode) 1 (pc' := 167) (lv' := [(6, .int z2), (5, .int z1), (0, .ref v0), (1, .int v1), (2, .ref v2), (3, .int v3), (4, .int v4)]) (st' := [.ref v0]) rfl ?_
            refine x_gQ e rfl rfl fd_0_0 rfl (fun z23 e => ?_)
            refine x_gQ e rfl rfl fd_10_0 rfl (fun z24 e => ?_)
            refine wp_p (j := J_Acts_runOnNode) 1 (pc' := 175) (lv' := [(6, .int z2), (5, .int z1), (0, .ref v0), (1, .int v1), (2, .ref v2), (3, .int v3), (4, .int v4)]) (st' := [.int z2, .ref z24]) rfl ?_
            refine x_aQ e rfl rfl rfl (fun z25 e => ?_)
            refine wp_p (j := J_Acts_runOnNode) 5 (pc' := 183) (lv' := [(6, .int z2), (5, .int z1), (0, .ref v0), (1, .int v1), (2, .ref v2), (3, .int v3), (4, .int v4)]) (st' := [.int v4, .int (z1 + 1), .ref v2, .ref z25]) rfl ?_
            refine x_cv0 (As := [.ref v2, .int (z1 + 1), .int v4]) (rest := []) e rfl rfl rfl rfl rfl rfl (fun h => d_Node_setValue h ⟨rfl, rfl⟩) (fun g26 e => ?_)
            refine wp_p (j := J_Acts_runOnNode) 1 (pc' := 187) (lv' := [(6, .int z2), (5, .int z1), (0, .ref v0), (1, .int v1), (2, .ref v2), (3, .int v3), (4, .int v4)]) (st' := [.int 1]) rfl ?_
            have e := Option.some.inj e; subst e; exact wp_iret (ty := .boolean) rfl rfl (by decide) c
          · refine wp_p (j := J_Acts_runOnNode) 1 (pc' := 187) (lv' := [(6, .int z2), (5, .int z1), (0, .ref v0), (1, .int v1), (2, .ref v2), (3, .int v3), (4, .int v4)]) (st' := [.int 1]) rfl ?_
            have e := Option.some.inj e; subst e; exact wp_iret (ty := .boolean) rfl rfl (by decide) c
        refine x_if e (fun h27 e => ?_) (fun h27 e => ?_)
        · refine x_sw (cst := 5) (pc' := 241) (rest := []) h27 rfl rfl rfl ?_
          exact wp_lv (lv' := [(0, .ref v0), (2, .ref v2), (4, .int v4), (5, .int z1), (6, .int z2)]) rfl ⟨rfl, rfl, rfl, rfl, rfl, trivial⟩ (x_Acts_runOnNode_241 e c)
        refine x_if e (fun h28 e => ?_) (fun h28 e => ?_)
        · refine x_sw (cst := 6) (pc' := 188) (rest := []) h28 rfl rfl rfl ?_
          refine wp_p (j := J_Acts_runOnNode) 2 (pc' := 190) (lv' := [(6, .int z2), (5, .int z1), (0, .ref v0), (1, .int v1), (2, .ref v2), (3, .int v3), (4, .int v4)]) (st' := [.ref v0, .ref v0]) rfl ?_
          refine x_gQ e rfl rfl fd_0_1 rfl (fun z29 e => ?_)
          refine x_gQ e rfl rfl fd_6_14 rfl (fun z30 e => ?_)
          refine wp_p (j := J_Acts_runOnNode) 6 (pc' := 204) (lv' := [(6, .int z2), (5, .int z1), (0, .ref v0), (1, .int v1), (2, .ref v2), (3, .int v3), (4, .int v4)]) (st' := [.ref v0, .int v4, .int (z1 + 1), .ref v2, .ref z30, .ref v0]) rfl ?_
          refine x_gQ e rfl rfl fd_0_1 rfl (fun z31 e => ?_)
          refine x_gQ e rfl rfl fd_6_13 rfl (fun z32 e => ?_)
          refine x_cv2 (As := [.ref v2, .int (z1 + 1), .int v4, .ref z32]) (rest := [.ref v0]) Value.int e rfl rfl rfl rfl rfl rfl (fun h => d_Address_read h ⟨rfl, rfl⟩) (fun z33 g34 e => ?_)
          refine z_eq e rfl (fun e => ?_) (fun e => ?_)
          · refine wp_p (j := J_Acts_runOnNode) 1 (pc' := 222) (lv' := [(6, .int z2), (5, .int z1), (0, .ref v0), (1, .int v1), (2, .ref v2), (3, .int v3), (4, .int v4)]) (st' := [.int (-1), .ref v0]) rfl ?_
            exact wp_lv (lv' := []) rfl trivial (x_Acts_runOnNode_222 e c)
          · refine wp_p (j := J_Acts_runOnNode) 2 (pc' := 222) (lv' := [(6, .int z2), (5, .int z1), (0, .ref v0), (1, .int v1), (2, .ref v2), (3, .int v3), (4, .int v4)]) (st' := [.int z2, .ref v0]) rfl ?_
            exact wp_lv (lv' := []) rfl trivial (x_Acts_runOnNode_222 e c)
        refine wp_b (pc' := 241) (st' := []) rfl rfl ((ts_d (x := v1) (lo := 0) 7 rfl ⟨h6, h9, h12, h17, h18, h27, h28, trivial⟩).trans rfl) ?_
        exact wp_lv (lv' := [(0, .ref v0), (2, .ref v2), (4, .int v4), (5, .int z1), (6, .int z2)]) rfl ⟨rfl, rfl, rfl, rfl, rfl, trivial⟩ (x_Acts_runOnNode_241 e c)
noncomputable def k_Acts_runStep_154 (v0 : Nat) (v1 : Nat) (v3 : Int32) (v4 : Int32) (v5 : Int32) (g : g_S) : Option (Int32 × g_S) :=
  c2 (vc g 100 v0 (M_Acts_runOnNode v0 v5 v1 (v4 + 1) v3 g)) fun z1 g2 =>
  (tz z1).bind fun z3 =>
  some (z3, g2)
set_option maxRecDepth 20000 in
theorem x_Acts_runStep_154 {L : Nat} {xs : Nat → Int32} {Q : Option Value → ab_H → Prop} {v0 : Nat} {v1 : Nat} {v3 : Int32} {v4 : Int32} {v5 : Int32} {g : g_S} {out : Int32 × g_S} (e : k_Acts_runStep_154 v0 v1 v3 v4 v5 g = some out) (c : Q (some (.int out.1)) (hp out.2)) : wp (ab_ext L xs) J_Acts_runStep 154 [(0, .ref v0), (1, .ref v1), (3, .int v3), (4, .int v4), (5, .int v5)] [] (hp g) Q := by
  unfold k_Acts_runStep_154 at e
  refine wp_p (j := J_Acts_runStep) 7 (pc' := 163) (lv' := [(0, .ref v0), (1, .ref v1), (3, .int v3), (4, .int v4), (5, .int v5)]) (st' := [.int v3, .int (v4 + 1), .ref v1, .int v5, .ref v0]) rfl ?_
  refine x_cv2 (As := [.int v5, .ref v1, .int (v4 + 1), .int v3]) (rest := []) Value.int e rfl rfl rfl rfl rfl rfl (fun h => d_Acts_runOnNode h ⟨rfl, rfl⟩) (fun z1 g2 e => ?_)
  obtain ⟨h4, e⟩ := tz_ok e
  have e := Option.some.inj e; subst e; exact wp_iret (ty := .boolean) rfl rfl h4 c
noncomputable def k_Acts_runStep_52 (v3 : Int32) (v4 : Int32) (g : g_S) : Option (Int32 × g_S) :=
  if v4 = v3 then
    some (1, g)
  else
    some (0, g)
set_option maxRecDepth 20000 in
theorem x_Acts_runStep_52 {L : Nat} {xs : Nat → Int32} {Q : Option Value → ab_H → Prop} {v3 : Int32} {v4 : Int32} {g : g_S} {out : Int32 × g_S} (e : k_Acts_runStep_52 v3 v4 g = some out) (c : Q (some (.int out.1)) (hp out.2)) : wp (ab_ext L xs) J_Acts_runStep 52 [(3, .int v3), (4, .int v4)] [] (hp g) Q := by
  unfold k_Acts_runStep_52 at e
  refine wp_p (j := J_Acts_runStep) 2 (pc' := 55) (lv' := [(3, .int v3), (4, .int v4)]) (st' := [.int v3, .int v4]) rfl ?_
  refine x_ne e rfl (fun e => ?_) (fun e => ?_)
  · refine wp_p (j := J_Acts_runStep) 2 (pc' := 63) (lv' := [(3, .int v3), (4, .int v4)]) (st' := [.int 1]) rfl ?_
    have e := Option.some.inj e; subst e; exact wp_iret (ty := .boolean) rfl rfl (by decide) c
  · refine wp_p (j := J_Acts_runStep) 1 (pc' := 63) (lv' := [(3, .int v3), (4, .int v4)]) (st' := [.int 0]) rfl ?_
    have e := Option.some.inj e; subst e; exact wp_iret (ty := .boolean) rfl rfl (by decide) c
noncomputable def M_Acts_runStep (v0 : Nat) (v1 : Nat) (v2 : Int32) (v3 : Int32) (g : g_S) : Option (Int32 × g_S) :=
  (M_Acts_blankAt v1 v2 v3 g).bind fun z1 =>
  (M_Bytes_wordPlace 1000022 v1 v2 z1 g).bind fun z2 =>
  if z2 = 10 then
    if z1 = v3 then
      (rI g 100 v0 18).bind fun z3 =>
      if z3 = 0 then
        k_Acts_runStep_52 v3 z1 g
      else
        (wI g 100 v0 18 0).bind fun g4 =>
        (rI g4 100 v0 15).bind fun z5 =>
        (wI g4 100 v0 16 z5).bind fun g6 =>
        k_Acts_runStep_52 v3 z1 g6
    else
      k_Acts_runStep_52 v3 z1 g
  else
    if z2 = (-1) then
      some (0, g)
    else
      if z1 = v3 then
        some (0, g)
      else
        if z2 = 5 then
          (rQ g 100 v0 1).bind fun z8 =>
          c2 (vc g 106 z8 (M_Net_aim z8 v1 (z1 + 1) v3 g)) fun z9 g10 =>
          some (1, g10)
        else if z2 = 6 then
          k_Acts_runStep_154 v0 v1 v3 z1 z2 g
        else if z2 = 7 then
          c2 (vc g 100 v0 (M_Acts_runPut v0 v1 (z1 + 1) v3 g)) fun z13 g14 =>
          (tz z13).bind fun z15 =>
          some (z15, g14)
        else if z2 = 8 then
          k_Acts_runStep_154 v0 v1 v3 z1 z2 g
        else if z2 = 9 then
          c2 (vc g 100 v0 (M_Acts_runWait v0 v1 (z1 + 1) v3 g)) fun z19 g20 =>
          (tz z19).bind fun z21 =>
          some (z21, g20)
        else
          k_Acts_runStep_154 v0 v1 v3 z1 z2 g
set_option maxRecDepth 20000 in
theorem d_Acts_runStep {L : Nat} {xs : Nat → Int32} {Q : Option Value → ab_H → Prop} {v0 : Nat} {v1 : Nat} {v2 : Int32} {v3 : Int32} {g : g_S} {out : Int32 × g_S} (e : M_Acts_runStep v0 v1 v2 v3 g = some out) (c : Q (some (.int out.1)) (hp out.2)) : mw (ab_ext L xs) J_Acts_runStep [.ref v0, .ref v1, .int v2, .int v3] (hp g) Q := by
  unfold M_Acts_runStep at e
  refine wp_p (j := J_Acts_runStep) 3 (pc' := 3) (lv' := [(0, .ref v0), (1, .ref v1), (2, .int v2), (3, .int v3)]) (st' := [.int v3, .int v2, .ref v1]) rfl ?_
  refine x_cs1 (As := [.ref v1, .int v2, .int v3]) (rest := []) Value.int e rfl rfl rfl rfl rfl (fun h => d_Acts_blankAt h ⟨rfl, rfl⟩) (fun z1 e => ?_)
  refine wp_p (j := J_Acts_runStep) 1 (pc' := 8) (lv' := [(4, .int z1), (0, .ref v0), (1, .ref v1), (2, .int v2), (3, .int v3)]) (st' := []) rfl ?_
  refine x_ls rfl rfl ?_
  refine wp_p (j := J_Acts_runStep) 3 (pc' := 14) (lv' := [(4, .int z1), (0, .ref v0), (1, .ref v1), (2, .int v2), (3, .int v3)]) (st' := [.int z1, .int v2, .ref v1, .ref 1000022]) rfl ?_
  refine x_cs1 (As := [.ref 1000022, .ref v1, .int v2, .int z1]) (rest := []) Value.int e rfl rfl rfl rfl rfl (fun h => d_Bytes_wordPlace h ⟨rfl, rfl⟩) (fun z2 e => ?_)
  refine wp_p (j := J_Acts_runStep) 3 (pc' := 23) (lv' := [(5, .int z2), (4, .int z1), (0, .ref v0), (1, .ref v1), (2, .int v2), (3, .int v3)]) (st' := [.int 10, .int z2]) rfl ?_
  refine x_ne e rfl (fun e => ?_) (fun e => ?_)
  · refine wp_p (j := J_Acts_runStep) 2 (pc' := 29) (lv' := [(5, .int z2), (4, .int z1), (0, .ref v0), (1, .ref v1), (2, .int v2), (3, .int v3)]) (st' := [.int v3, .int z1]) rfl ?_
    refine x_ne e rfl (fun e => ?_) (fun e => ?_)
    · refine wp_p (j := J_Acts_runStep) 1 (pc' := 33) (lv' := [(5, .int z2), (4, .int z1), (0, .ref v0), (1, .ref v1), (2, .int v2), (3, .int v3)]) (st' := [.ref v0]) rfl ?_
      refine x_gI e rfl rfl fd_0_18 rfl (fun z3 e => ?_)
      refine z_eq e rfl (fun e => ?_) (fun e => ?_)
      · exact wp_lv (lv' := [(3, .int v3), (4, .int z1)]) rfl ⟨rfl, rfl, trivial⟩ (x_Acts_runStep_52 e c)
      · refine wp_p (j := J_Acts_runStep) 2 (pc' := 41) (lv' := [(5, .int z2), (4, .int z1), (0, .ref v0), (1, .ref v1), (2, .int v2), (3, .int v3)]) (st' := [.int 0, .ref v0]) rfl ?_
        refine x_pI e rfl rfl fw_0_18 rfl (fun g4 e => ?_)
        refine wp_p (j := J_Acts_runStep) 2 (pc' := 46) (lv' := [(5, .int z2), (4, .int z1), (0, .ref v0), (1, .ref v1), (2, .int v2), (3, .int v3)]) (st' := [.ref v0, .ref v0]) rfl ?_
        refine x_gI e rfl rfl fd_0_15 rfl (fun z5 e => ?_)
        refine x_pI e rfl rfl fw_0_16 rfl (fun g6 e => ?_)
        exact wp_lv (lv' := [(3, .int v3), (4, .int z1)]) rfl ⟨rfl, rfl, trivial⟩ (x_Acts_runStep_52 e c)
    · exact wp_lv (lv' := [(3, .int v3), (4, .int z1)]) rfl ⟨rfl, rfl, trivial⟩ (x_Acts_runStep_52 e c)
  · refine wp_p (j := J_Acts_runStep) 2 (pc' := 67) (lv' := [(5, .int z2), (4, .int z1), (0, .ref v0), (1, .ref v1), (2, .int v2), (3, .int v3)]) (st' := [.int (-1), .int z2]) rfl ?_
    refine x_eq e rfl (fun e => ?_) (fun e => ?_)
    · refine wp_p (j := J_Acts_runStep) 1 (pc' := 77) (lv' := [(5, .int z2), (4, .int z1), (0, .ref v0), (1, .ref v1), (2, .int v2), (3, .int v3)]) (st' := [.int 0]) rfl ?_
      have e := Option.some.inj e; subst e; exact wp_iret (ty := .boolean) rfl rfl (by decide) c
    · refine wp_p (j := J_Acts_runStep) 2 (pc' := 73) (lv' := [(5, .int z2), (4, .int z1), (0, .ref v0), (1, .ref v1), (2, .int v2), (3, .int v3)]) (st' := [.int v3, .int z1]) rfl ?_
      refine x_ne e rfl (fun e => ?_) (fun e => ?_)
      · refine wp_p (j := J_Acts_runStep) 1 (pc' := 77) (lv' := [(5, .int z2), (4, .int z1), (0, .ref v0), (1, .ref v1), (2, .int v2), (3, .int v3)]) (st' := [.int 0]) rfl ?_
        have e := Option.some.inj e; subst e; exact wp_iret (ty := .boolean) rfl rfl (by decide) c
      · refine wp_p (j := J_Acts_runStep) 1 (pc' := 80) (lv' := [(5, .int z2), (4, .int z1), (0, .ref v0), (1, .ref v1), (2, .int v2), (3, .int v3)]) (st' := [.int z2]) rfl ?_
        refine x_if e (fun h7 e => ?_) (fun h7 e => ?_)
        · refine x_sw (cst := 5) (pc' := 116) (rest := []) h7 rfl rfl rfl ?_
          refine wp_p (j := J_Acts_runStep) 1 (pc' := 117) (lv' := [(5, .int z2), (4, .int z1), (0, .ref v0), (1, .ref v1), (2, .int v2), (3, .int v3)]) (st' := [.ref v0]) rfl ?_
          refine x_gQ e rfl rfl fd_0_1 rfl (fun z8 e => ?_)
          refine wp_p (j := J_Acts_runStep) 5 (pc' := 126) (lv' := [(5, .int z2), (4, .int z1), (0, .ref v0), (1, .ref v1), (2, .int v2), (3, .int v3)]) (st' := [.int v3, .int (z1 + 1), .ref v1, .ref z8]) rfl ?_
          refine x_cv2 (As := [.ref v1, .int (z1 + 1), .int v3]) (rest := []) Value.int e rfl rfl rfl rfl rfl rfl (fun h => d_Net_aim h ⟨rfl, rfl⟩) (fun z9 g10 e => ?_)
          refine wp_p (j := J_Acts_runStep) 2 (pc' := 131) (lv' := [(5, .int z2), (4, .int z1), (0, .ref v0), (1, .ref v1), (2, .int v2), (3, .int v3)]) (st' := [.int 1]) rfl ?_
          have e := Option.some.inj e; subst e; exact wp_iret (ty := .boolean) rfl rfl (by decide) c
        refine x_if e (fun h11 e => ?_) (fun h11 e => ?_)
        · refine x_sw (cst := 6) (pc' := 154) (rest := []) h11 rfl rfl rfl ?_
          exact wp_lv (lv' := [(0, .ref v0), (1, .ref v1), (3, .int v3), (4, .int z1), (5, .int z2)]) rfl ⟨rfl, rfl, rfl, rfl, rfl, trivial⟩ (x_Acts_runStep_154 e c)
        refine x_if e (fun h12 e => ?_) (fun h12 e => ?_)
        · refine x_sw (cst := 7) (pc' := 132) (rest := []) h12 rfl rfl rfl ?_
          refine wp_p (j := J_Acts_runStep) 6 (pc' := 139) (lv' := [(5, .int z2), (4, .int z1), (0, .ref v0), (1, .ref v1), (2, .int v2), (3, .int v3)]) (st' := [.int v3, .int (z1 + 1), .ref v1, .ref v0]) rfl ?_
          refine x_cv2 (As := [.ref v1, .int (z1 + 1), .int v3]) (rest := []) Value.int e rfl rfl rfl rfl rfl rfl (fun h => d_Acts_runPut h ⟨rfl, rfl⟩) (fun z13 g14 e => ?_)
          obtain ⟨h16, e⟩ := tz_ok e
          have e := Option.some.inj e; subst e; exact wp_iret (ty := .boolean) rfl rfl h16 c
        refine x_if e (fun h17 e => ?_) (fun h17 e => ?_)
        · refine x_sw (cst := 8) (pc' := 154) (rest := []) h17 rfl rfl rfl ?_
          exact wp_lv (lv' := [(0, .ref v0), (1, .ref v1), (3, .int v3), (4, .int z1), (5, .int z2)]) rfl ⟨rfl, rfl, rfl, rfl, rfl, trivial⟩ (x_Acts_runStep_154 e c)
        refine x_if e (fun h18 e => ?_) (fun h18 e => ?_)
        · refine x_sw (cst := 9) (pc' := 143) (rest := []) h18 rfl rfl rfl ?_
          refine wp_p (j := J_Acts_runStep) 6 (pc' := 150) (lv' := [(5, .int z2), (4, .int z1), (0, .ref v0), (1, .ref v1), (2, .int v2), (3, .int v3)]) (st' := [.int v3, .int (z1 + 1), .ref v1, .ref v0]) rfl ?_
          refine x_cv2 (As := [.ref v1, .int (z1 + 1), .int v3]) (rest := []) Value.int e rfl rfl rfl rfl rfl rfl (fun h => d_Acts_runWait h ⟨rfl, rfl⟩) (fun z19 g20 e => ?_)
          obtain ⟨h22, e⟩ := tz_ok e
          have e := Option.some.inj e; subst e; exact wp_iret (ty := .boolean) rfl rfl h22 c
        refine wp_b (pc' := 154) (st' := []) rfl rfl ((ts_d (x := z2) (lo := 5) 5 rfl ⟨h7, h11, h12, h17, h18, trivial⟩).trans rfl) ?_
        exact wp_lv (lv' := [(0, .ref v0), (1, .ref v1), (3, .int v3), (4, .int z1), (5, .int z2)]) rfl ⟨rfl, rfl, rfl, rfl, rfl, trivial⟩ (x_Acts_runStep_154 e c)
def cL_Acts_runNext_48 (L : Nat) (xs : Nat → Int32) (Q : Option Value → ab_H → Prop) (v0 : Nat) (v2 : Int32) (g : g_S) (out : (Int32) ⊕ (Int32)) : Prop := match out with
  | .inl s => wp (ab_ext L xs) J_Acts_runNext 48 [(0, .ref v0), (1, .int s), (2, .int v2)] [] (hp g) Q
  | .inr s => wp (ab_ext L xs) J_Acts_runNext 74 [(0, .ref v0), (1, .int s), (2, .int v2)] [] (hp g) Q
noncomputable def b_Acts_runNext_48 (v0 : Nat) (v2 : Int32) (v1 : Int32) (g : g_S) : Option ((Int32) ⊕ (Int32)) :=
  if v1 < v2 then
    (rQ g 100 v0 11).bind fun z1 =>
    (rQ g 104 z1 1).bind fun z2 =>
    (aI g 1 z2 v1).bind fun z3 =>
    (M_Bytes_isBlank z3 g).bind fun z4 =>
    if z4 = 0 then
      some (.inr v1)
    else
      some (.inl (v1 + 1))
  else
    some (.inr v1)
set_option maxRecDepth 20000 in
theorem y_Acts_runNext_48 {L : Nat} {xs : Nat → Int32} {Q : Option Value → ab_H → Prop} {v0 : Nat} {v2 : Int32} {v1 : Int32} {g : g_S} {out : (Int32) ⊕ (Int32)} (e : b_Acts_runNext_48 v0 v2 v1 g = some out) (c : cL_Acts_runNext_48 L xs Q v0 v2 g out) : wp (ab_ext L xs) J_Acts_runNext 48 [(0, .ref v0), (1, .int v1), (2, .int v2)] [] (hp g) Q := by
  unfold b_Acts_runNext_48 at e
  refine wp_p (j := J_Acts_runNext) 2 (pc' := 50) (lv' := [(0, .ref v0), (1, .int v1), (2, .int v2)]) (st' := [.int v2, .int v1]) rfl ?_
  refine x_ge e rfl (fun e => ?_) (fun e => ?_)
  · refine wp_p (j := J_Acts_runNext) 1 (pc' := 54) (lv' := [(0, .ref v0), (1, .int v1), (2, .int v2)]) (st' := [.ref v0]) rfl ?_
    refine x_gQ e rfl rfl fd_0_11 rfl (fun z1 e => ?_)
    refine x_gQ e rfl rfl fd_4_1 rfl (fun z2 e => ?_)
    refine wp_p (j := J_Acts_runNext) 1 (pc' := 61) (lv' := [(0, .ref v0), (1, .int v1), (2, .int v2)]) (st' := [.int v1, .ref z2]) rfl ?_
    refine x_aB e rfl (.inl rfl) rfl (fun z3 e => ?_)
    refine x_cs1 (As := [.int z3]) (rest := []) Value.int e rfl rfl rfl rfl rfl (fun h => d_Bytes_isBlank h ⟨rfl, rfl⟩) (fun z4 e => ?_)
    refine z_eq e rfl (fun e => ?_) (fun e => ?_)
    · have e := Option.some.inj e; subst e; exact wp_lv (lv' := [(0, .ref v0), (1, .int v1), (2, .int v2)]) rfl ⟨rfl, rfl, rfl, trivial⟩ c
    · refine wp_p (j := J_Acts_runNext) 2 (pc' := 48) (lv' := [(1, .int (v1 + 1)), (0, .ref v0), (2, .int v2)]) (st' := []) rfl ?_
      have e := Option.some.inj e; subst e; exact wp_lv (lv' := [(0, .ref v0), (1, .int (v1 + 1)), (2, .int v2)]) rfl ⟨rfl, rfl, rfl, trivial⟩ c
  · have e := Option.some.inj e; subst e; exact wp_lv (lv' := [(0, .ref v0), (1, .int v1), (2, .int v2)]) rfl ⟨rfl, rfl, rfl, trivial⟩ c
noncomputable def L_Acts_runNext_48 (v0 : Nat) (v2 : Int32) (v1 : Int32) (g : g_S) : Option (Int32) := it (fun s : Int32 => b_Acts_runNext_48 v0 v2 s g) (v1)
theorem l_Acts_runNext_48 {L : Nat} {xs : Nat → Int32} {Q : Option Value → ab_H → Prop} {v0 : Nat} {v2 : Int32} {v1 : Int32} {g : g_S} {r : Int32} (e : L_Acts_runNext_48 v0 v2 v1 g = some r) (c : cL_Acts_runNext_48 L xs Q v0 v2 g (.inr r)) : wp (ab_ext L xs) J_Acts_runNext 48 [(0, .ref v0), (1, .int v1), (2, .int v2)] [] (hp g) Q :=
  it_wp (P := fun s : Int32 => wp (ab_ext L xs) J_Acts_runNext 48 [(0, .ref v0), (1, .int s), (2, .int v2)] [] (hp g) Q) (E := fun r => cL_Acts_runNext_48 L xs Q v0 v2 g (.inr r)) (fun s out e c => y_Acts_runNext_48 e (by cases out <;> exact c)) e c
theorem L_Acts_runNext_48_eq (v0 : Nat) (v2 : Int32) (v1 : Int32) (g : g_S) : L_Acts_runNext_48 v0 v2 v1 g = itc (b_Acts_runNext_48 v0 v2 v1 g) (fun s => L_Acts_runNext_48 v0 v2 s g) := it_eq2 (fun s : Int32 => b_Acts_runNext_48 v0 v2 s g) (v1)
def cL_Acts_runNext_10 (L : Nat) (xs : Nat → Int32) (Q : Option Value → ab_H → Prop) (v0 : Nat) (v1 : Int32) (g : g_S) (out : (Int32) ⊕ (Int32)) : Prop := match out with
  | .inl s => wp (ab_ext L xs) J_Acts_runNext 10 [(0, .ref v0), (1, .int v1), (2, .int s)] [] (hp g) Q
  | .inr s => wp (ab_ext L xs) J_Acts_runNext 41 [(0, .ref v0), (1, .int v1), (2, .int s)] [] (hp g) Q
noncomputable def b_Acts_runNext_10 (v0 : Nat) (v1 : Int32) (v2 : Int32) (g : g_S) : Option ((Int32) ⊕ (Int32)) :=
  (rQ g 100 v0 11).bind fun z1 =>
  (rI g 104 z1 2).bind fun z2 =>
  if v2 < z2 then
    (rQ g 100 v0 11).bind fun z3 =>
    (rQ g 104 z3 1).bind fun z4 =>
    (aI g 1 z4 v2).bind fun z5 =>
    if z5 = 59 then
      some (.inr v2)
    else
      some (.inl (v2 + 1))
  else
    some (.inr v2)
set_option maxRecDepth 20000 in
theorem y_Acts_runNext_10 {L : Nat} {xs : Nat → Int32} {Q : Option Value → ab_H → Prop} {v0 : Nat} {v1 : Int32} {v2 : Int32} {g : g_S} {out : (Int32) ⊕ (Int32)} (e : b_Acts_runNext_10 v0 v1 v2 g = some out) (c : cL_Acts_runNext_10 L xs Q v0 v1 g out) : wp (ab_ext L xs) J_Acts_runNext 10 [(0, .ref v0), (1, .int v1), (2, .int v2)] [] (hp g) Q := by
  unfold b_Acts_runNext_10 at e
  refine wp_p (j := J_Acts_runNext) 2 (pc' := 12) (lv' := [(0, .ref v0), (1, .int v1), (2, .int v2)]) (st' := [.ref v0, .int v2]) rfl ?_
  refine x_gQ e rfl rfl fd_0_11 rfl (fun z1 e => ?_)
  refine x_gI e rfl rfl fd_4_2 rfl (fun z2 e => ?_)
  refine x_ge e rfl (fun e => ?_) (fun e => ?_)
  · refine wp_p (j := J_Acts_runNext) 1 (pc' := 22) (lv' := [(0, .ref v0), (1, .int v1), (2, .int v2)]) (st' := [.ref v0]) rfl ?_
    refine x_gQ e rfl rfl fd_0_11 rfl (fun z3 e => ?_)
    refine x_gQ e rfl rfl fd_4_1 rfl (fun z4 e => ?_)
    refine wp_p (j := J_Acts_runNext) 1 (pc' := 29) (lv' := [(0, .ref v0), (1, .int v1), (2, .int v2)]) (st' := [.int v2, .ref z4]) rfl ?_
    refine x_aB e rfl (.inl rfl) rfl (fun z5 e => ?_)
    refine wp_p (j := J_Acts_runNext) 1 (pc' := 32) (lv' := [(0, .ref v0), (1, .int v1), (2, .int v2)]) (st' := [.int 59, .int z5]) rfl ?_
    refine x_eq e rfl (fun e => ?_) (fun e => ?_)
    · have e := Option.some.inj e; subst e; exact wp_lv (lv' := [(0, .ref v0), (1, .int v1), (2, .int v2)]) rfl ⟨rfl, rfl, rfl, trivial⟩ c
    · refine wp_p (j := J_Acts_runNext) 2 (pc' := 10) (lv' := [(2, .int (v2 + 1)), (0, .ref v0), (1, .int v1)]) (st' := []) rfl ?_
      have e := Option.some.inj e; subst e; exact wp_lv (lv' := [(0, .ref v0), (1, .int v1), (2, .int (v2 + 1))]) rfl ⟨rfl, rfl, rfl, trivial⟩ c
  · have e := Option.some.inj e; subst e; exact wp_lv (lv' := [(0, .ref v0), (1, .int v1), (2, .int v2)]) rfl ⟨rfl, rfl, rfl, trivial⟩ c
noncomputable def L_Acts_runNext_10 (v0 : Nat) (v1 : Int32) (v2 : Int32) (g : g_S) : Option (Int32) := it (fun s : Int32 => b_Acts_runNext_10 v0 v1 s g) (v2)
theorem l_Acts_runNext_10 {L : Nat} {xs : Nat → Int32} {Q : Option Value → ab_H → Prop} {v0 : Nat} {v1 : Int32} {v2 : Int32} {g : g_S} {r : Int32} (e : L_Acts_runNext_10 v0 v1 v2 g = some r) (c : cL_Acts_runNext_10 L xs Q v0 v1 g (.inr r)) : wp (ab_ext L xs) J_Acts_runNext 10 [(0, .ref v0), (1, .int v1), (2, .int v2)] [] (hp g) Q :=
  it_wp (P := fun s : Int32 => wp (ab_ext L xs) J_Acts_runNext 10 [(0, .ref v0), (1, .int v1), (2, .int s)] [] (hp g) Q) (E := fun r => cL_Acts_runNext_10 L xs Q v0 v1 g (.inr r)) (fun s out e c => y_Acts_runNext_10 e (by cases out <;> exact c)) e c
theorem L_Acts_runNext_10_eq (v0 : Nat) (v1 : Int32) (v2 : Int32) (g : g_S) : L_Acts_runNext_10 v0 v1 v2 g = itc (b_Acts_runNext_10 v0 v1 v2 g) (fun s => L_Acts_runNext_10 v0 v1 s g) := it_eq2 (fun s : Int32 => b_Acts_runNext_10 v0 v1 s g) (v2)
noncomputable def k_Acts_runNext_74 (v0 : Nat) (v1 : Int32) (v2 : Int32) (g : g_S) : Option g_S :=
  if v1 = v2 then
    some g
  else
    (rI g 100 v0 9).bind fun z1 =>
    (wI g 100 v0 9 (z1 - 1)).bind fun g2 =>
    (rQ g2 100 v0 11).bind fun z3 =>
    (rQ g2 104 z3 1).bind fun z4 =>
    c2 (vc g2 100 v0 (M_Acts_runStep v0 z4 v1 v2 g2)) fun z5 g6 =>
    if z5 = 0 then
      (rI g6 100 v0 8).bind fun z7 =>
      (wI g6 100 v0 8 (z7 + 1)).bind fun g8 =>
      some g8
    else
      (rI g6 100 v0 7).bind fun z9 =>
      (wI g6 100 v0 7 (z9 + 1)).bind fun g10 =>
      some g10
set_option maxRecDepth 20000 in
theorem x_Acts_runNext_74 {L : Nat} {xs : Nat → Int32} {Q : Option Value → ab_H → Prop} {v0 : Nat} {v1 : Int32} {v2 : Int32} {g : g_S} {out : g_S} (e : k_Acts_runNext_74 v0 v1 v2 g = some out) (c : Q none (hp out)) : wp (ab_ext L xs) J_Acts_runNext 74 [(0, .ref v0), (1, .int v1), (2, .int v2)] [] (hp g) Q := by
  unfold k_Acts_runNext_74 at e
  refine wp_p (j := J_Acts_runNext) 2 (pc' := 76) (lv' := [(0, .ref v0), (1, .int v1), (2, .int v2)]) (st' := [.int v2, .int v1]) rfl ?_
  refine x_ne e rfl (fun e => ?_) (fun e => ?_)
  · have e := Option.some.inj e; subst e; exact wp_vret rfl rfl c
  · refine wp_p (j := J_Acts_runNext) 2 (pc' := 82) (lv' := [(0, .ref v0), (1, .int v1), (2, .int v2)]) (st' := [.ref v0, .ref v0]) rfl ?_
    refine x_gI e rfl rfl fd_0_9 rfl (fun z1 e => ?_)
    refine wp_p (j := J_Acts_runNext) 2 (pc' := 87) (lv' := [(0, .ref v0), (1, .int v1), (2, .int v2)]) (st' := [.int (z1 - 1), .ref v0]) rfl ?_
    refine x_pI e rfl rfl fw_0_9 rfl (fun g2 e => ?_)
    refine wp_p (j := J_Acts_runNext) 2 (pc' := 92) (lv' := [(0, .ref v0), (1, .int v1), (2, .int v2)]) (st' := [.ref v0, .ref v0]) rfl ?_
    refine x_gQ e rfl rfl fd_0_11 rfl (fun z3 e => ?_)
    refine x_gQ e rfl rfl fd_4_1 rfl (fun z4 e => ?_)
    refine wp_p (j := J_Acts_runNext) 2 (pc' := 100) (lv' := [(0, .ref v0), (1, .int v1), (2, .int v2)]) (st' := [.int v2, .int v1, .ref z4, .ref v0]) rfl ?_
    refine x_cv2 (As := [.ref z4, .int v1, .int v2]) (rest := []) Value.int e rfl rfl rfl rfl rfl rfl (fun h => d_Acts_runStep h ⟨rfl, rfl⟩) (fun z5 g6 e => ?_)
    refine z_eq e rfl (fun e => ?_) (fun e => ?_)
    · refine wp_p (j := J_Acts_runNext) 2 (pc' := 121) (lv' := [(0, .ref v0), (1, .int v1), (2, .int v2)]) (st' := [.ref v0, .ref v0]) rfl ?_
      refine x_gI e rfl rfl fd_0_8 rfl (fun z7 e => ?_)
      refine wp_p (j := J_Acts_runNext) 2 (pc' := 126) (lv' := [(0, .ref v0), (1, .int v1), (2, .int v2)]) (st' := [.int (z7 + 1), .ref v0]) rfl ?_
      refine x_pI e rfl rfl fw_0_8 rfl (fun g8 e => ?_)
      have e := Option.some.inj e; subst e; exact wp_vret rfl rfl c
    · refine wp_p (j := J_Acts_runNext) 2 (pc' := 108) (lv' := [(0, .ref v0), (1, .int v1), (2, .int v2)]) (st' := [.ref v0, .ref v0]) rfl ?_
      refine x_gI e rfl rfl fd_0_7 rfl (fun z9 e => ?_)
      refine wp_p (j := J_Acts_runNext) 2 (pc' := 113) (lv' := [(0, .ref v0), (1, .int v1), (2, .int v2)]) (st' := [.int (z9 + 1), .ref v0]) rfl ?_
      refine x_pI e rfl rfl fw_0_7 rfl (fun g10 e => ?_)
      refine wp_p (j := J_Acts_runNext) 1 (pc' := 129) (lv' := [(0, .ref v0), (1, .int v1), (2, .int v2)]) (st' := []) rfl ?_
      have e := Option.some.inj e; subst e; exact wp_vret rfl rfl c
noncomputable def k_Acts_runNext_41 (v0 : Nat) (v1 : Int32) (v2 : Int32) (g : g_S) : Option g_S :=
  (wI g 100 v0 12 (v2 + 1)).bind fun g1 =>
  (L_Acts_runNext_48 v0 v2 v1 g1).bind <| fun z4 =>
  k_Acts_runNext_74 v0 z4 v2 g1
set_option maxRecDepth 20000 in
theorem x_Acts_runNext_41 {L : Nat} {xs : Nat → Int32} {Q : Option Value → ab_H → Prop} {v0 : Nat} {v1 : Int32} {v2 : Int32} {g : g_S} {out : g_S} (e : k_Acts_runNext_41 v0 v1 v2 g = some out) (c : Q none (hp out)) : wp (ab_ext L xs) J_Acts_runNext 41 [(0, .ref v0), (1, .int v1), (2, .int v2)] [] (hp g) Q := by
  unfold k_Acts_runNext_41 at e
  refine wp_p (j := J_Acts_runNext) 4 (pc' := 45) (lv' := [(0, .ref v0), (1, .int v1), (2, .int v2)]) (st' := [.int (v2 + 1), .ref v0]) rfl ?_
  refine x_pI e rfl rfl fw_0_12 rfl (fun g1 e => ?_)
  obtain ⟨z4, h3, e⟩ := bd e
  refine wp_lv (lv' := [(0, .ref v0), (1, .int v1), (2, .int v2)]) rfl ⟨rfl, rfl, rfl, trivial⟩ ?_
  refine l_Acts_runNext_48 h3 ?_
  show wp (ab_ext L xs) J_Acts_runNext 74 [(0, .ref v0), (1, .int z4), (2, .int v2)] [] (hp g1) Q
  exact wp_lv (lv' := [(0, .ref v0), (1, .int z4), (2, .int v2)]) rfl ⟨rfl, rfl, rfl, trivial⟩ (x_Acts_runNext_74 e c)
noncomputable def M_Acts_runNext (v0 : Nat) (g : g_S) : Option g_S :=
  (rI g 100 v0 12).bind fun z1 =>
  (rI g 100 v0 12).bind fun z2 =>
  (L_Acts_runNext_10 v0 z1 z2 g).bind <| fun z5 =>
  k_Acts_runNext_41 v0 z1 z5 g
set_option maxRecDepth 20000 in
theorem d_Acts_runNext {L : Nat} {xs : Nat → Int32} {Q : Option Value → ab_H → Prop} {v0 : Nat} {g : g_S} {out : g_S} (e : M_Acts_runNext v0 g = some out) (c : Q none (hp out)) : mw (ab_ext L xs) J_Acts_runNext [.ref v0] (hp g) Q := by
  unfold M_Acts_runNext at e
  refine wp_p (j := J_Acts_runNext) 1 (pc' := 1) (lv' := [(0, .ref v0)]) (st' := [.ref v0]) rfl ?_
  refine x_gI e rfl rfl fd_0_12 rfl (fun z1 e => ?_)
  refine wp_p (j := J_Acts_runNext) 2 (pc' := 6) (lv' := [(1, .int z1), (0, .ref v0)]) (st' := [.ref v0]) rfl ?_
  refine x_gI e rfl rfl fd_0_12 rfl (fun z2 e => ?_)
  refine wp_p (j := J_Acts_runNext) 1 (pc' := 10) (lv' := [(2, .int z2), (1, .int z1), (0, .ref v0)]) (st' := []) rfl ?_
  obtain ⟨z5, h4, e⟩ := bd e
  refine wp_lv (lv' := [(0, .ref v0), (1, .int z1), (2, .int z2)]) rfl ⟨rfl, rfl, rfl, trivial⟩ ?_
  refine l_Acts_runNext_10 h4 ?_
  show wp (ab_ext L xs) J_Acts_runNext 41 [(0, .ref v0), (1, .int z1), (2, .int z5)] [] (hp g) Q
  exact wp_lv (lv' := [(0, .ref v0), (1, .int z1), (2, .int z5)]) rfl ⟨rfl, rfl, rfl, trivial⟩ (x_Acts_runNext_41 e c)
noncomputable def M_Acts_startScript (v0 : Nat) (v1 : Nat) (v2 : Int64) (g : g_S) : Option g_S :=
  (rQ g 100 v0 11).bind fun z1 =>
  (vc g 104 z1 (M_Bytes_clear z1 g)).bind fun g2 =>
  (rQ g2 100 v0 11).bind fun z3 =>
  (rQ g2 104 v1 1).bind fun z4 =>
  (rI g2 104 v1 2).bind fun z5 =>
  (vc g2 104 z3 (M_Bytes_addAll z3 z4 0 z5 g2)).bind fun g6 =>
  (wI g6 100 v0 12 0).bind fun g7 =>
  (wL g7 100 v0 13 v2).bind fun g8 =>
  some g8
set_option maxRecDepth 20000 in
theorem d_Acts_startScript {L : Nat} {xs : Nat → Int32} {Q : Option Value → ab_H → Prop} {v0 : Nat} {v1 : Nat} {v2 : Int64} {g : g_S} {out : g_S} (e : M_Acts_startScript v0 v1 v2 g = some out) (c : Q none (hp out)) : mw (ab_ext L xs) J_Acts_startScript [.ref v0, .ref v1, .long v2] (hp g) Q := by
  unfold M_Acts_startScript at e
  refine wp_p (j := J_Acts_startScript) 1 (pc' := 1) (lv' := [(0, .ref v0), (1, .ref v1), (2, .long v2)]) (st' := [.ref v0]) rfl ?_
  refine x_gQ e rfl rfl fd_0_11 rfl (fun z1 e => ?_)
  refine x_cv0 (As := []) (rest := []) e rfl rfl rfl rfl rfl rfl (fun h => d_Bytes_clear h ⟨rfl, rfl⟩) (fun g2 e => ?_)
  refine wp_p (j := J_Acts_startScript) 1 (pc' := 8) (lv' := [(0, .ref v0), (1, .ref v1), (2, .long v2)]) (st' := [.ref v0]) rfl ?_
  refine x_gQ e rfl rfl fd_0_11 rfl (fun z3 e => ?_)
  refine wp_p (j := J_Acts_startScript) 1 (pc' := 12) (lv' := [(0, .ref v0), (1, .ref v1), (2, .long v2)]) (st' := [.ref v1, .ref z3]) rfl ?_
  refine x_gQ e rfl rfl fd_4_1 rfl (fun z4 e => ?_)
  refine wp_p (j := J_Acts_startScript) 2 (pc' := 17) (lv' := [(0, .ref v0), (1, .ref v1), (2, .long v2)]) (st' := [.ref v1, .int 0, .ref z4, .ref z3]) rfl ?_
  refine x_gI e rfl rfl fd_4_2 rfl (fun z5 e => ?_)
  refine x_cv0 (As := [.ref z4, .int 0, .int z5]) (rest := []) e rfl rfl rfl rfl rfl rfl (fun h => d_Bytes_addAll h ⟨rfl, rfl⟩) (fun g6 e => ?_)
  refine wp_p (j := J_Acts_startScript) 2 (pc' := 25) (lv' := [(0, .ref v0), (1, .ref v1), (2, .long v2)]) (st' := [.int 0, .ref v0]) rfl ?_
  refine x_pI e rfl rfl fw_0_12 rfl (fun g7 e => ?_)
  refine wp_p (j := J_Acts_startScript) 2 (pc' := 30) (lv' := [(0, .ref v0), (1, .ref v1), (2, .long v2)]) (st' := [.long v2, .ref v0]) rfl ?_
  refine x_pL e rfl rfl fw_0_13 rfl (fun g8 e => ?_)
  have e := Option.some.inj e; subst e; exact wp_vret rfl rfl c
noncomputable def k_Acts_listenNext_62 (v0 : Nat) (v1 : Int64) (v3 : Int32) (w0 : Nat) (g : g_S) : Option g_S :=
  (rQ g 100 v0 0).bind fun z1 =>
  (rQ g 110 z1 0).bind fun z2 =>
  (aQ g 5 z2 v3).bind fun z3 =>
  (vc g 107 z3 (M_Node_read z3 w0 g)).bind fun z4 =>
  oc z4
    (fun q5 =>
    (vc g 100 v0 (M_Acts_startScript v0 q5 v1 g)).bind fun g6 =>
    some g6)
    (
    some g)
set_option maxRecDepth 20000 in
theorem x_Acts_listenNext_62 {L : Nat} {xs : Nat → Int32} {Q : Option Value → ab_H → Prop} {v0 : Nat} {v1 : Int64} {v3 : Int32} {w0 : Nat} {g : g_S} {out : g_S} (e : k_Acts_listenNext_62 v0 v1 v3 w0 g = some out) (c : Q none (hp out)) : wp (ab_ext L xs) J_Acts_listenNext 62 [(0, .ref v0), (1, .long v1), (3, .int v3)] [.ref w0] (hp g) Q := by
  unfold k_Acts_listenNext_62 at e
  refine wp_p (j := J_Acts_listenNext) 2 (pc' := 65) (lv' := [(4, .ref w0), (0, .ref v0), (1, .long v1), (3, .int v3)]) (st' := [.ref v0]) rfl ?_
  refine x_gQ e rfl rfl fd_0_0 rfl (fun z1 e => ?_)
  refine x_gQ e rfl rfl fd_10_0 rfl (fun z2 e => ?_)
  refine wp_p (j := J_Acts_listenNext) 1 (pc' := 72) (lv' := [(4, .ref w0), (0, .ref v0), (1, .long v1), (3, .int v3)]) (st' := [.int v3, .ref z2]) rfl ?_
  refine x_aQ e rfl rfl rfl (fun z3 e => ?_)
  refine wp_p (j := J_Acts_listenNext) 1 (pc' := 75) (lv' := [(4, .ref w0), (0, .ref v0), (1, .long v1), (3, .int v3)]) (st' := [.ref w0, .ref z3]) rfl ?_
  refine x_cv1 (As := [.ref w0]) (rest := []) va_rf e rfl rfl rfl rfl rfl rfl (fun h => d_Node_read h ⟨rfl, rfl⟩) (fun z4 e => ?_)
  rcases z4 with _ | q5
  · replace e := oc_n e
    show wp (ab_ext L xs) J_Acts_listenNext 78 [(4, .ref w0), (0, .ref v0), (1, .long v1), (3, .int v3)] [.null] (hp g) Q
    refine wp_p (j := J_Acts_listenNext) 2 (pc' := 82) (lv' := [(5, .null), (4, .ref w0), (0, .ref v0), (1, .long v1), (3, .int v3)]) (st' := [.null]) rfl ?_
    refine wp_b (pc' := 92) (st' := []) rfl rfl rfl ?_
    have e := Option.some.inj e; subst e; exact wp_vret rfl rfl c
  · replace e := oc_s e
    show wp (ab_ext L xs) J_Acts_listenNext 78 [(4, .ref w0), (0, .ref v0), (1, .long v1), (3, .int v3)] [.ref q5] (hp g) Q
    refine wp_p (j := J_Acts_listenNext) 2 (pc' := 82) (lv' := [(5, .ref q5), (4, .ref w0), (0, .ref v0), (1, .long v1), (3, .int v3)]) (st' := [.ref q5]) rfl ?_
    refine wp_b (pc' := 85) (st' := []) rfl rfl rfl ?_
    refine wp_p (j := J_Acts_listenNext) 3 (pc' := 89) (lv' := [(5, .ref q5), (4, .ref w0), (0, .ref v0), (1, .long v1), (3, .int v3)]) (st' := [.long v1, .ref q5, .ref v0]) rfl ?_
    refine x_cv0 (As := [.ref q5, .long v1]) (rest := []) e rfl rfl rfl rfl rfl rfl (fun h => d_Acts_startScript h ⟨rfl, rfl⟩) (fun g6 e => ?_)
    have e := Option.some.inj e; subst e; exact wp_vret rfl rfl c
noncomputable def M_Acts_listenNext (v0 : Nat) (g : g_S) : Option g_S :=
  (rQ g 100 v0 14).bind fun z1 =>
  (rI g 100 v0 15).bind fun z2 =>
  (aL g z1 z2).bind fun z3 =>
  (rQ g 100 v0 0).bind fun z4 =>
  (vc g 110 z4 (M_Tree_alive z4 z3 g)).bind fun z5 =>
  (rI g 100 v0 15).bind fun z6 =>
  (wI g 100 v0 15 (z6 + 1)).bind fun g7 =>
  if z5 = (-1) then
    some g7
  else
    (rI g7 100 v0 18).bind fun z8 =>
    if z8 = 0 then
      k_Acts_listenNext_62 v0 z3 z5 1000021 g7
    else
      (rI g7 100 v0 18).bind fun z9 =>
      if z9 = (-1) then
        k_Acts_listenNext_62 v0 z3 z5 1000026 g7
      else
        k_Acts_listenNext_62 v0 z3 z5 1000027 g7
set_option maxRecDepth 20000 in
theorem d_Acts_listenNext {L : Nat} {xs : Nat → Int32} {Q : Option Value → ab_H → Prop} {v0 : Nat} {g : g_S} {out : g_S} (e : M_Acts_listenNext v0 g = some out) (c : Q none (hp out)) : mw (ab_ext L xs) J_Acts_listenNext [.ref v0] (hp g) Q := by
  unfold M_Acts_listenNext at e
  refine wp_p (j := J_Acts_listenNext) 1 (pc' := 1) (lv' := [(0, .ref v0)]) (st' := [.ref v0]) rfl ?_
  refine x_gQ e rfl rfl fd_0_14 rfl (fun z1 e => ?_)
  refine wp_p (j := J_Acts_listenNext) 1 (pc' := 5) (lv' := [(0, .ref v0)]) (st' := [.ref v0, .ref z1]) rfl ?_
  refine x_gI e rfl rfl fd_0_15 rfl (fun z2 e => ?_)
  refine x_aL e rfl rfl (fun z3 e => ?_)
  refine wp_p (j := J_Acts_listenNext) 2 (pc' := 11) (lv' := [(1, .long z3), (0, .ref v0)]) (st' := [.ref v0]) rfl ?_
  refine x_gQ e rfl rfl fd_0_0 rfl (fun z4 e => ?_)
  refine wp_p (j := J_Acts_listenNext) 1 (pc' := 15) (lv' := [(1, .long z3), (0, .ref v0)]) (st' := [.long z3, .ref z4]) rfl ?_
  refine x_cv1 (As := [.long z3]) (rest := []) Value.int e rfl rfl rfl rfl rfl rfl (fun h => d_Tree_alive h ⟨rfl, rfl⟩) (fun z5 e => ?_)
  refine wp_p (j := J_Acts_listenNext) 3 (pc' := 21) (lv' := [(3, .int z5), (1, .long z3), (0, .ref v0)]) (st' := [.ref v0, .ref v0]) rfl ?_
  refine x_gI e rfl rfl fd_0_15 rfl (fun z6 e => ?_)
  refine wp_p (j := J_Acts_listenNext) 2 (pc' := 26) (lv' := [(3, .int z5), (1, .long z3), (0, .ref v0)]) (st' := [.int (z6 + 1), .ref v0]) rfl ?_
  refine x_pI e rfl rfl fw_0_15 rfl (fun g7 e => ?_)
  refine wp_p (j := J_Acts_listenNext) 2 (pc' := 31) (lv' := [(3, .int z5), (1, .long z3), (0, .ref v0)]) (st' := [.int (-1), .int z5]) rfl ?_
  refine x_ne e rfl (fun e => ?_) (fun e => ?_)
  · have e := Option.some.inj e; subst e; exact wp_vret rfl rfl c
  · refine wp_p (j := J_Acts_listenNext) 1 (pc' := 36) (lv' := [(3, .int z5), (1, .long z3), (0, .ref v0)]) (st' := [.ref v0]) rfl ?_
    refine x_gI e rfl rfl fd_0_18 rfl (fun z8 e => ?_)
    refine z_ne e rfl (fun e => ?_) (fun e => ?_)
    · refine x_ls rfl rfl ?_
      refine wp_p (j := J_Acts_listenNext) 1 (pc' := 62) (lv' := [(3, .int z5), (1, .long z3), (0, .ref v0)]) (st' := [.ref 1000021]) rfl ?_
      exact wp_lv (lv' := [(0, .ref v0), (1, .long z3), (3, .int z5)]) rfl ⟨rfl, rfl, rfl, trivial⟩ (x_Acts_listenNext_62 e c)
    · refine wp_p (j := J_Acts_listenNext) 1 (pc' := 48) (lv' := [(3, .int z5), (1, .long z3), (0, .ref v0)]) (st' := [.ref v0]) rfl ?_
      refine x_gI e rfl rfl fd_0_18 rfl (fun z9 e => ?_)
      refine wp_p (j := J_Acts_listenNext) 1 (pc' := 52) (lv' := [(3, .int z5), (1, .long z3), (0, .ref v0)]) (st' := [.int (-1), .int z9]) rfl ?_
      refine x_ne e rfl (fun e => ?_) (fun e => ?_)
      · refine x_ls rfl rfl ?_
        refine wp_p (j := J_Acts_listenNext) 1 (pc' := 62) (lv' := [(3, .int z5), (1, .long z3), (0, .ref v0)]) (st' := [.ref 1000026]) rfl ?_
        exact wp_lv (lv' := [(0, .ref v0), (1, .long z3), (3, .int z5)]) rfl ⟨rfl, rfl, rfl, trivial⟩ (x_Acts_listenNext_62 e c)
      · refine x_ls rfl rfl ?_
        exact wp_lv (lv' := [(0, .ref v0), (1, .long z3), (3, .int z5)]) rfl ⟨rfl, rfl, rfl, trivial⟩ (x_Acts_listenNext_62 e c)
noncomputable def M_Bytes_dropLast (v0 : Nat) (g : g_S) : Option g_S :=
  (rI g 104 v0 2).bind fun z1 =>
  if 0 < z1 then
    (rI g 104 v0 2).bind fun z2 =>
    (wI g 104 v0 2 (z2 - 1)).bind fun g3 =>
    some g3
  else
    some g
set_option maxRecDepth 20000 in
theorem d_Bytes_dropLast {L : Nat} {xs : Nat → Int32} {Q : Option Value → ab_H → Prop} {v0 : Nat} {g : g_S} {out : g_S} (e : M_Bytes_dropLast v0 g = some out) (c : Q none (hp out)) : mw (ab_ext L xs) J_Bytes_dropLast [.ref v0] (hp g) Q := by
  unfold M_Bytes_dropLast at e
  refine wp_p (j := J_Bytes_dropLast) 1 (pc' := 1) (lv' := [(0, .ref v0)]) (st' := [.ref v0]) rfl ?_
  refine x_gI e rfl rfl fd_4_2 rfl (fun z1 e => ?_)
  refine z_le e rfl (fun e => ?_) (fun e => ?_)
  · refine wp_p (j := J_Bytes_dropLast) 2 (pc' := 9) (lv' := [(0, .ref v0)]) (st' := [.ref v0, .ref v0]) rfl ?_
    refine x_gI e rfl rfl fd_4_2 rfl (fun z2 e => ?_)
    refine wp_p (j := J_Bytes_dropLast) 2 (pc' := 14) (lv' := [(0, .ref v0)]) (st' := [.int (z2 - 1), .ref v0]) rfl ?_
    refine x_pI e rfl rfl fw_4_2 rfl (fun g3 e => ?_)
    have e := Option.some.inj e; subst e; exact wp_vret rfl rfl c
  · have e := Option.some.inj e; subst e; exact wp_vret rfl rfl c
def cL_Tree_around_10 (L : Nat) (xs : Nat → Int32) (Q : Option Value → ab_H → Prop) (v0 : Nat) (v2 : Int32) (g : g_S) (out : (Int32) ⊕ (Int32)) : Prop := match out with
  | .inl s => wp (ab_ext L xs) J_Tree_around 10 [(0, .ref v0), (2, .int v2), (3, .int s)] [] (hp g) Q
  | .inr s => wp (ab_ext L xs) J_Tree_around 41 [(3, .int s)] [] (hp g) Q
noncomputable def b_Tree_around_10 (v0 : Nat) (v2 : Int32) (v3 : Int32) (g : g_S) : Option ((Int32) ⊕ (Int32)) :=
  if v3 = (-1) then
    some (.inr v3)
  else
    (rQ g 110 v0 0).bind fun z1 =>
    (aQ g 5 z1 v3).bind fun z2 =>
    (rI g 107 z2 0).bind fun z3 =>
    if z3 = v2 then
      some (.inr v3)
    else
      (rQ g 110 v0 0).bind fun z4 =>
      (aQ g 5 z4 v3).bind fun z5 =>
      (rI g 107 z5 2).bind fun z6 =>
      some (.inl z6)
set_option maxRecDepth 20000 in
theorem y_Tree_around_10 {L : Nat} {xs : Nat → Int32} {Q : Option Value → ab_H → Prop} {v0 : Nat} {v2 : Int32} {v3 : Int32} {g : g_S} {out : (Int32) ⊕ (Int32)} (e : b_Tree_around_10 v0 v2 v3 g = some out) (c : cL_Tree_around_10 L xs Q v0 v2 g out) : wp (ab_ext L xs) J_Tree_around 10 [(0, .ref v0), (2, .int v2), (3, .int v3)] [] (hp g) Q := by
  unfold b_Tree_around_10 at e
  refine wp_p (j := J_Tree_around) 2 (pc' := 12) (lv' := [(0, .ref v0), (2, .int v2), (3, .int v3)]) (st' := [.int (-1), .int v3]) rfl ?_
  refine x_eq e rfl (fun e => ?_) (fun e => ?_)
  · have e := Option.some.inj e; subst e; exact wp_lv (lv' := [(3, .int v3)]) rfl ⟨rfl, trivial⟩ c
  · refine wp_p (j := J_Tree_around) 1 (pc' := 16) (lv' := [(0, .ref v0), (2, .int v2), (3, .int v3)]) (st' := [.ref v0]) rfl ?_
    refine x_gQ e rfl rfl fd_10_0 rfl (fun z1 e => ?_)
    refine wp_p (j := J_Tree_around) 1 (pc' := 20) (lv' := [(0, .ref v0), (2, .int v2), (3, .int v3)]) (st' := [.int v3, .ref z1]) rfl ?_
    refine x_aQ e rfl rfl rfl (fun z2 e => ?_)
    refine x_gI e rfl rfl fd_7_0 rfl (fun z3 e => ?_)
    refine wp_p (j := J_Tree_around) 1 (pc' := 25) (lv' := [(0, .ref v0), (2, .int v2), (3, .int v3)]) (st' := [.int v2, .int z3]) rfl ?_
    refine x_eq e rfl (fun e => ?_) (fun e => ?_)
    · have e := Option.some.inj e; subst e; exact wp_lv (lv' := [(3, .int v3)]) rfl ⟨rfl, trivial⟩ c
    · refine wp_p (j := J_Tree_around) 1 (pc' := 29) (lv' := [(0, .ref v0), (2, .int v2), (3, .int v3)]) (st' := [.ref v0]) rfl ?_
      refine x_gQ e rfl rfl fd_10_0 rfl (fun z4 e => ?_)
      refine wp_p (j := J_Tree_around) 1 (pc' := 33) (lv' := [(0, .ref v0), (2, .int v2), (3, .int v3)]) (st' := [.int v3, .ref z4]) rfl ?_
      refine x_aQ e rfl rfl rfl (fun z5 e => ?_)
      refine x_gI e rfl rfl fd_7_2 rfl (fun z6 e => ?_)
      refine wp_p (j := J_Tree_around) 2 (pc' := 10) (lv' := [(3, .int z6), (0, .ref v0), (2, .int v2)]) (st' := []) rfl ?_
      have e := Option.some.inj e; subst e; exact wp_lv (lv' := [(0, .ref v0), (2, .int v2), (3, .int z6)]) rfl ⟨rfl, rfl, rfl, trivial⟩ c
noncomputable def L_Tree_around_10 (v0 : Nat) (v2 : Int32) (v3 : Int32) (g : g_S) : Option (Int32) := it (fun s : Int32 => b_Tree_around_10 v0 v2 s g) (v3)
theorem l_Tree_around_10 {L : Nat} {xs : Nat → Int32} {Q : Option Value → ab_H → Prop} {v0 : Nat} {v2 : Int32} {v3 : Int32} {g : g_S} {r : Int32} (e : L_Tree_around_10 v0 v2 v3 g = some r) (c : cL_Tree_around_10 L xs Q v0 v2 g (.inr r)) : wp (ab_ext L xs) J_Tree_around 10 [(0, .ref v0), (2, .int v2), (3, .int v3)] [] (hp g) Q :=
  it_wp (P := fun s : Int32 => wp (ab_ext L xs) J_Tree_around 10 [(0, .ref v0), (2, .int v2), (3, .int s)] [] (hp g) Q) (E := fun r => cL_Tree_around_10 L xs Q v0 v2 g (.inr r)) (fun s out e c => y_Tree_around_10 e (by cases out <;> exact c)) e c
theorem L_Tree_around_10_eq (v0 : Nat) (v2 : Int32) (v3 : Int32) (g : g_S) : L_Tree_around_10 v0 v2 v3 g = itc (b_Tree_around_10 v0 v2 v3 g) (fun s => L_Tree_around_10 v0 v2 s g) := it_eq2 (fun s : Int32 => b_Tree_around_10 v0 v2 s g) (v3)
noncomputable def M_Tree_around (v0 : Nat) (v1 : Int32) (v2 : Int32) (g : g_S) : Option Int32 :=
  (rQ g 110 v0 0).bind fun z1 =>
  (aQ g 5 z1 v1).bind fun z2 =>
  (rI g 107 z2 2).bind fun z3 =>
  (L_Tree_around_10 v0 v2 z3 g).bind <| fun z6 =>
  some z6
set_option maxRecDepth 20000 in
theorem d_Tree_around {L : Nat} {xs : Nat → Int32} {Q : Option Value → ab_H → Prop} {v0 : Nat} {v1 : Int32} {v2 : Int32} {g : g_S} {out : Int32} (e : M_Tree_around v0 v1 v2 g = some out) (c : Q (some (.int out)) (hp g)) : mw (ab_ext L xs) J_Tree_around [.ref v0, .int v1, .int v2] (hp g) Q := by
  unfold M_Tree_around at e
  refine wp_p (j := J_Tree_around) 1 (pc' := 1) (lv' := [(0, .ref v0), (1, .int v1), (2, .int v2)]) (st' := [.ref v0]) rfl ?_
  refine x_gQ e rfl rfl fd_10_0 rfl (fun z1 e => ?_)
  refine wp_p (j := J_Tree_around) 1 (pc' := 5) (lv' := [(0, .ref v0), (1, .int v1), (2, .int v2)]) (st' := [.int v1, .ref z1]) rfl ?_
  refine x_aQ e rfl rfl rfl (fun z2 e => ?_)
  refine x_gI e rfl rfl fd_7_2 rfl (fun z3 e => ?_)
  refine wp_p (j := J_Tree_around) 1 (pc' := 10) (lv' := [(3, .int z3), (0, .ref v0), (1, .int v1), (2, .int v2)]) (st' := []) rfl ?_
  obtain ⟨z6, h5, e⟩ := bd e
  refine wp_lv (lv' := [(0, .ref v0), (2, .int v2), (3, .int z3)]) rfl ⟨rfl, rfl, rfl, trivial⟩ ?_
  refine l_Tree_around_10 h5 ?_
  show wp (ab_ext L xs) J_Tree_around 41 [(3, .int z6)] [] (hp g) Q
  refine wp_p (j := J_Tree_around) 1 (pc' := 42) (lv' := [(3, .int z6)]) (st' := [.int z6]) rfl ?_
  have e := Option.some.inj e; subst e; exact wp_iret (ty := .int) rfl rfl rfl c
noncomputable def M_Bytes_isNameWhole (v0 : Nat) (g : g_S) : Option Int32 :=
  (rQ g 104 v0 1).bind fun z1 =>
  (rI g 104 v0 2).bind fun z2 =>
  (M_Bytes_isName z1 0 z2 g).bind fun z3 =>
  (tz z3).bind fun z4 =>
  some z4
set_option maxRecDepth 20000 in
theorem d_Bytes_isNameWhole {L : Nat} {xs : Nat → Int32} {Q : Option Value → ab_H → Prop} {v0 : Nat} {g : g_S} {out : Int32} (e : M_Bytes_isNameWhole v0 g = some out) (c : Q (some (.int out)) (hp g)) : mw (ab_ext L xs) J_Bytes_isNameWhole [.ref v0] (hp g) Q := by
  unfold M_Bytes_isNameWhole at e
  refine wp_p (j := J_Bytes_isNameWhole) 1 (pc' := 1) (lv' := [(0, .ref v0)]) (st' := [.ref v0]) rfl ?_
  refine x_gQ e rfl rfl fd_4_1 rfl (fun z1 e => ?_)
  refine wp_p (j := J_Bytes_isNameWhole) 2 (pc' := 6) (lv' := [(0, .ref v0)]) (st' := [.ref v0, .int 0, .ref z1]) rfl ?_
  refine x_gI e rfl rfl fd_4_2 rfl (fun z2 e => ?_)
  refine x_cs1 (As := [.ref z1, .int 0, .int z2]) (rest := []) Value.int e rfl rfl rfl rfl rfl (fun h => d_Bytes_isName h ⟨rfl, rfl⟩) (fun z3 e => ?_)
  obtain ⟨h5, e⟩ := tz_ok e
  have e := Option.some.inj e; subst e; exact wp_iret (ty := .boolean) rfl rfl h5 c
def cL_Acts_addSent_20 (L : Nat) (xs : Nat → Int32) (Q : Option Value → ab_H → Prop) (v0 : Nat) (v1 : Nat) (out : (Int32 × g_S) ⊕ (g_S)) : Prop := match out with
  | .inl s => wp (ab_ext L xs) J_Acts_addSent 20 [(0, .ref v0), (1, .ref v1), (2, .int s.1)] [] (hp s.2) Q
  | .inr s => wp (ab_ext L xs) J_Acts_addSent 80 [] [] (hp s) Q
noncomputable def b_Acts_addSent_20 (v0 : Nat) (v1 : Nat) (v2 : Int32) (g : g_S) : Option ((Int32 × g_S) ⊕ (g_S)) :=
  (rQ g 107 v1 11).bind fun z1 =>
  (rI g 104 z1 2).bind fun z2 =>
  if v2 < z2 then
    (rQ g 107 v1 11).bind fun z3 =>
    (rQ g 104 z3 1).bind fun z4 =>
    (aI g 1 z4 v2).bind fun z5 =>
    if z5 = 32 then
      (rQ g 100 v0 19).bind fun z6 =>
      (vc g 104 z6 (M_Bytes_add z6 43 g)).bind fun g7 =>
      some (.inl (v2 + 1, g7))
    else
      (M_Address_isSegmentByte z5 g).bind fun z8 =>
      if z8 = 0 then
        some (.inl (v2 + 1, g))
      else
        (rQ g 100 v0 19).bind fun z9 =>
        (vc g 104 z9 (M_Bytes_add z9 z5 g)).bind fun g10 =>
        some (.inl (v2 + 1, g10))
  else
    some (.inr g)
set_option maxRecDepth 20000 in
theorem y_Acts_addSent_20 {L : Nat} {xs : Nat → Int32} {Q : Option Value → ab_H → Prop} {v0 : Nat} {v1 : Nat} {v2 : Int32} {g : g_S} {out : (Int32 × g_S) ⊕ (g_S)} (e : b_Acts_addSent_20 v0 v1 v2 g = some out) (c : cL_Acts_addSent_20 L xs Q v0 v1 out) : wp (ab_ext L xs) J_Acts_addSent 20 [(0, .ref v0), (1, .ref v1), (2, .int v2)] [] (hp g) Q := by
  unfold b_Acts_addSent_20 at e
  refine wp_p (j := J_Acts_addSent) 2 (pc' := 22) (lv' := [(0, .ref v0), (1, .ref v1), (2, .int v2)]) (st' := [.ref v1, .int v2]) rfl ?_
  refine x_gQ e rfl rfl fd_7_11 rfl (fun z1 e => ?_)
  refine x_gI e rfl rfl fd_4_2 rfl (fun z2 e => ?_)
  refine x_ge e rfl (fun e => ?_) (fun e => ?_)
  · refine wp_p (j := J_Acts_addSent) 1 (pc' := 32) (lv' := [(0, .ref v0), (1, .ref v1), (2, .int v2)]) (st' := [.ref v1]) rfl ?_
    refine x_gQ e rfl rfl fd_7_11 rfl (fun z3 e => ?_)
    refine x_gQ e rfl rfl fd_4_1 rfl (fun z4 e => ?_)
    refine wp_p (j := J_Acts_addSent) 1 (pc' := 39) (lv' := [(0, .ref v0), (1, .ref v1), (2, .int v2)]) (st' := [.int v2, .ref z4]) rfl ?_
    refine x_aB e rfl (.inl rfl) rfl (fun z5 e => ?_)
    refine wp_p (j := J_Acts_addSent) 3 (pc' := 44) (lv' := [(3, .int z5), (0, .ref v0), (1, .ref v1), (2, .int v2)]) (st' := [.int 32, .int z5]) rfl ?_
    refine x_ne e rfl (fun e => ?_) (fun e => ?_)
    · refine wp_p (j := J_Acts_addSent) 1 (pc' := 48) (lv' := [(3, .int z5), (0, .ref v0), (1, .ref v1), (2, .int v2)]) (st' := [.ref v0]) rfl ?_
      refine x_gQ e rfl rfl fd_0_19 rfl (fun z6 e => ?_)
      refine wp_p (j := J_Acts_addSent) 1 (pc' := 53) (lv' := [(3, .int z5), (0, .ref v0), (1, .ref v1), (2, .int v2)]) (st' := [.int 43, .ref z6]) rfl ?_
      refine x_cv0 (As := [.int 43]) (rest := []) e rfl rfl rfl rfl rfl rfl (fun h => d_Bytes_add h ⟨rfl, rfl⟩) (fun g7 e => ?_)
      refine wp_p (j := J_Acts_addSent) 3 (pc' := 20) (lv' := [(2, .int (v2 + 1)), (3, .int z5), (0, .ref v0), (1, .ref v1)]) (st' := []) rfl ?_
      have e := Option.some.inj e; subst e; exact wp_lv (lv' := [(0, .ref v0), (1, .ref v1), (2, .int (v2 + 1))]) rfl ⟨rfl, rfl, rfl, trivial⟩ c
    · refine wp_p (j := J_Acts_addSent) 1 (pc' := 60) (lv' := [(3, .int z5), (0, .ref v0), (1, .ref v1), (2, .int v2)]) (st' := [.int z5]) rfl ?_
      refine x_cs1 (As := [.int z5]) (rest := []) Value.int e rfl rfl rfl rfl rfl (fun h => d_Address_isSegmentByte h ⟨rfl, rfl⟩) (fun z8 e => ?_)
      refine z_eq e rfl (fun e => ?_) (fun e => ?_)
      · refine wp_p (j := J_Acts_addSent) 2 (pc' := 20) (lv' := [(2, .int (v2 + 1)), (3, .int z5), (0, .ref v0), (1, .ref v1)]) (st' := []) rfl ?_
        have e := Option.some.inj e; subst e; exact wp_lv (lv' := [(0, .ref v0), (1, .ref v1), (2, .int (v2 + 1))]) rfl ⟨rfl, rfl, rfl, trivial⟩ c
      · refine wp_p (j := J_Acts_addSent) 1 (pc' := 67) (lv' := [(3, .int z5), (0, .ref v0), (1, .ref v1), (2, .int v2)]) (st' := [.ref v0]) rfl ?_
        refine x_gQ e rfl rfl fd_0_19 rfl (fun z9 e => ?_)
        refine wp_p (j := J_Acts_addSent) 1 (pc' := 71) (lv' := [(3, .int z5), (0, .ref v0), (1, .ref v1), (2, .int v2)]) (st' := [.int z5, .ref z9]) rfl ?_
        refine x_cv0 (As := [.int z5]) (rest := []) e rfl rfl rfl rfl rfl rfl (fun h => d_Bytes_add h ⟨rfl, rfl⟩) (fun g10 e => ?_)
        refine wp_p (j := J_Acts_addSent) 2 (pc' := 20) (lv' := [(2, .int (v2 + 1)), (3, .int z5), (0, .ref v0), (1, .ref v1)]) (st' := []) rfl ?_
        have e := Option.some.inj e; subst e; exact wp_lv (lv' := [(0, .ref v0), (1, .ref v1), (2, .int (v2 + 1))]) rfl ⟨rfl, rfl, rfl, trivial⟩ c
  · have e := Option.some.inj e; subst e; exact wp_lv (lv' := []) rfl trivial c
noncomputable def L_Acts_addSent_20 (v0 : Nat) (v1 : Nat) (v2 : Int32) (g : g_S) : Option (g_S) := it (fun s : Int32 × g_S => b_Acts_addSent_20 v0 v1 s.1 s.2) (v2, g)
theorem l_Acts_addSent_20 {L : Nat} {xs : Nat → Int32} {Q : Option Value → ab_H → Prop} {v0 : Nat} {v1 : Nat} {v2 : Int32} {g : g_S} {r : g_S} (e : L_Acts_addSent_20 v0 v1 v2 g = some r) (c : cL_Acts_addSent_20 L xs Q v0 v1 (.inr r)) : wp (ab_ext L xs) J_Acts_addSent 20 [(0, .ref v0), (1, .ref v1), (2, .int v2)] [] (hp g) Q :=
  it_wp (P := fun s : Int32 × g_S => wp (ab_ext L xs) J_Acts_addSent 20 [(0, .ref v0), (1, .ref v1), (2, .int s.1)] [] (hp s.2) Q) (E := fun r => cL_Acts_addSent_20 L xs Q v0 v1 (.inr r)) (fun s out e c => y_Acts_addSent_20 e (by cases out <;> exact c)) e c
theorem L_Acts_addSent_20_eq (v0 : Nat) (v1 : Nat) (v2 : Int32) (g : g_S) : L_Acts_addSent_20 v0 v1 v2 g = itc (b_Acts_addSent_20 v0 v1 v2 g) (fun s => L_Acts_addSent_20 v0 v1 s.1 s.2) := it_eq2 (fun s : Int32 × g_S => b_Acts_addSent_20 v0 v1 s.1 s.2) (v2, g)
noncomputable def M_Acts_addSent (v0 : Nat) (v1 : Nat) (g : g_S) : Option g_S :=
  (rI g 107 v1 15).bind fun z1 =>
  if z1 = 0 then
    (L_Acts_addSent_20 v0 v1 0 g).bind <| fun g4 =>
    some g4
  else
    (rQ g 100 v0 19).bind fun z5 =>
    (vc g 104 z5 (M_Bytes_addText z5 1000030 g)).bind fun g6 =>
    some g6
set_option maxRecDepth 20000 in
theorem d_Acts_addSent {L : Nat} {xs : Nat → Int32} {Q : Option Value → ab_H → Prop} {v0 : Nat} {v1 : Nat} {g : g_S} {out : g_S} (e : M_Acts_addSent v0 v1 g = some out) (c : Q none (hp out)) : mw (ab_ext L xs) J_Acts_addSent [.ref v0, .ref v1] (hp g) Q := by
  unfold M_Acts_addSent at e
  refine wp_p (j := J_Acts_addSent) 1 (pc' := 1) (lv' := [(0, .ref v0), (1, .ref v1)]) (st' := [.ref v1]) rfl ?_
  refine x_gI e rfl rfl fd_7_15 rfl (fun z1 e => ?_)
  refine z_eq e rfl (fun e => ?_) (fun e => ?_)
  · refine wp_p (j := J_Acts_addSent) 2 (pc' := 20) (lv' := [(2, .int 0), (0, .ref v0), (1, .ref v1)]) (st' := []) rfl ?_
    obtain ⟨g4, h3, e⟩ := bd e
    refine wp_lv (lv' := [(0, .ref v0), (1, .ref v1), (2, .int 0)]) rfl ⟨rfl, rfl, rfl, trivial⟩ ?_
    refine l_Acts_addSent_20 h3 ?_
    show wp (ab_ext L xs) J_Acts_addSent 80 [] [] (hp g4) Q
    have e := Option.some.inj e; subst e; exact wp_vret rfl rfl c
  · refine wp_p (j := J_Acts_addSent) 1 (pc' := 8) (lv' := [(0, .ref v0), (1, .ref v1)]) (st' := [.ref v0]) rfl ?_
    refine x_gQ e rfl rfl fd_0_19 rfl (fun z5 e => ?_)
    refine x_lsw rfl rfl ?_
    refine x_cv0 (As := [.ref 1000030]) (rest := []) e rfl rfl rfl rfl rfl rfl (fun h => d_Bytes_addText h ⟨rfl, rfl⟩) (fun g6 e => ?_)
    have e := Option.some.inj e; subst e; exact wp_vret rfl rfl c
noncomputable def M_Address_replaceQuery (v0 : Nat) (v1 : Nat) (g : g_S) : Option g_S :=
  (rI g 104 v1 2).bind fun z1 =>
  (rI g 101 v0 3).bind fun z2 =>
  (rI g 101 v0 5).bind fun z3 =>
  (rI g 101 v0 4).bind fun z4 =>
  (rQ g 101 v0 0).bind fun z5 =>
  (rI g 101 v0 4).bind fun z6 =>
  (rQ g 101 v0 0).bind fun z7 =>
  (cp g 1 z5 z6 z7 ((z2 + 1) + (mn z1 40)) (z3 - z4)).bind fun g8 =>
  (rQ g8 101 v0 0).bind fun z9 =>
  (rI g8 101 v0 3).bind fun z10 =>
  (sB g8 z9 z10 63).bind fun g11 =>
  (rQ g11 104 v1 1).bind fun z12 =>
  (rQ g11 101 v0 0).bind fun z13 =>
  (rI g11 101 v0 3).bind fun z14 =>
  (cp g11 1 z12 0 z13 (z14 + 1) (mn z1 40)).bind fun g15 =>
  (wI g15 101 v0 4 ((z2 + 1) + (mn z1 40))).bind fun g16 =>
  (wI g16 101 v0 5 (((z2 + 1) + (mn z1 40)) + (z3 - z4))).bind fun g17 =>
  some g17
set_option maxRecDepth 20000 in
theorem d_Address_replaceQuery {L : Nat} {xs : Nat → Int32} {Q : Option Value → ab_H → Prop} {v0 : Nat} {v1 : Nat} {g : g_S} {out : g_S} (e : M_Address_replaceQuery v0 v1 g = some out) (c : Q none (hp out)) : mw (ab_ext L xs) J_Address_replaceQuery [.ref v0, .ref v1] (hp g) Q := by
  unfold M_Address_replaceQuery at e
  refine wp_p (j := J_Address_replaceQuery) 1 (pc' := 1) (lv' := [(0, .ref v0), (1, .ref v1)]) (st' := [.ref v1]) rfl ?_
  refine x_gI e rfl rfl fd_4_2 rfl (fun z1 e => ?_)
  refine wp_p (j := J_Address_replaceQuery) 1 (pc' := 6) (lv' := [(0, .ref v0), (1, .ref v1)]) (st' := [.int 40, .int z1]) rfl ?_
  refine x_mn rfl rfl ?_
  refine wp_p (j := J_Address_replaceQuery) 2 (pc' := 11) (lv' := [(2, .int (mn z1 40)), (0, .ref v0), (1, .ref v1)]) (st' := [.ref v0]) rfl ?_
  refine x_gI e rfl rfl fd_1_3 rfl (fun z2 e => ?_)
  refine wp_p (j := J_Address_replaceQuery) 6 (pc' := 20) (lv' := [(3, .int ((z2 + 1) + (mn z1 40))), (2, .int (mn z1 40)), (0, .ref v0), (1, .ref v1)]) (st' := [.ref v0]) rfl ?_
  refine x_gI e rfl rfl fd_1_5 rfl (fun z3 e => ?_)
  refine wp_p (j := J_Address_replaceQuery) 1 (pc' := 24) (lv' := [(3, .int ((z2 + 1) + (mn z1 40))), (2, .int (mn z1 40)), (0, .ref v0), (1, .ref v1)]) (st' := [.ref v0, .int z3]) rfl ?_
  refine x_gI e rfl rfl fd_1_4 rfl (fun z4 e => ?_)
  refine wp_p (j := J_Address_replaceQuery) 3 (pc' := 31) (lv' := [(4, .int (z3 - z4)), (3, .int ((z2 + 1) + (mn z1 40))), (2, .int (mn z1 40)), (0, .ref v0), (1, .ref v1)]) (st' := [.ref v0]) rfl ?_
  refine x_gQ e rfl rfl fd_1_0 rfl (fun z5 e => ?_)
  refine wp_p (j := J_Address_replaceQuery) 1 (pc' := 35) (lv' := [(4, .int (z3 - z4)), (3, .int ((z2 + 1) + (mn z1 40))), (2, .int (mn z1 40)), (0, .ref v0), (1, .ref v1)]) (st' := [.ref v0, .ref z5]) rfl ?_
  refine x_gI e rfl rfl fd_1_4 rfl (fun z6 e => ?_)
  refine wp_p (j := J_Address_replaceQuery) 1 (pc' := 39) (lv' := [(4, .int (z3 - z4)), (3, .int ((z2 + 1) + (mn z1 40))), (2, .int (mn z1 40)), (0, .ref v0), (1, .ref v1)]) (st' := [.ref v0, .int z6, .ref z5]) rfl ?_
  refine x_gQ e rfl rfl fd_1_0 rfl (fun z7 e => ?_)
  refine wp_p (j := J_Address_replaceQuery) 2 (pc' := 45) (lv' := [(4, .int (z3 - z4)), (3, .int ((z2 + 1) + (mn z1 40))), (2, .int (mn z1 40)), (0, .ref v0), (1, .ref v1)]) (st' := [.int (z3 - z4), .int ((z2 + 1) + (mn z1 40)), .ref z7, .int z6, .ref z5]) rfl ?_
  refine x_cp e rfl (.inr rfl) rfl (fun g8 e => ?_)
  refine wp_p (j := J_Address_replaceQuery) 1 (pc' := 49) (lv' := [(4, .int (z3 - z4)), (3, .int ((z2 + 1) + (mn z1 40))), (2, .int (mn z1 40)), (0, .ref v0), (1, .ref v1)]) (st' := [.ref v0]) rfl ?_
  refine x_gQ e rfl rfl fd_1_0 rfl (fun z9 e => ?_)
  refine wp_p (j := J_Address_replaceQuery) 1 (pc' := 53) (lv' := [(4, .int (z3 - z4)), (3, .int ((z2 + 1) + (mn z1 40))), (2, .int (mn z1 40)), (0, .ref v0), (1, .ref v1)]) (st' := [.ref v0, .ref z9]) rfl ?_
  refine x_gI e rfl rfl fd_1_3 rfl (fun z10 e => ?_)
  refine wp_p (j := J_Address_replaceQuery) 1 (pc' := 58) (lv' := [(4, .int (z3 - z4)), (3, .int ((z2 + 1) + (mn z1 40))), (2, .int (mn z1 40)), (0, .ref v0), (1, .ref v1)]) (st' := [.int 63, .int z10, .ref z9]) rfl ?_
  refine x_sB e rfl rfl (fun g11 e => ?_)
  refine wp_p (j := J_Address_replaceQuery) 1 (pc' := 60) (lv' := [(4, .int (z3 - z4)), (3, .int ((z2 + 1) + (mn z1 40))), (2, .int (mn z1 40)), (0, .ref v0), (1, .ref v1)]) (st' := [.ref v1]) rfl ?_
  refine x_gQ e rfl rfl fd_4_1 rfl (fun z12 e => ?_)
  refine wp_p (j := J_Address_replaceQuery) 2 (pc' := 65) (lv' := [(4, .int (z3 - z4)), (3, .int ((z2 + 1) + (mn z1 40))), (2, .int (mn z1 40)), (0, .ref v0), (1, .ref v1)]) (st' := [.ref v0, .int 0, .ref z12]) rfl ?_
  refine x_gQ e rfl rfl fd_1_0 rfl (fun z13 e => ?_)
  refine wp_p (j := J_Address_replaceQuery) 1 (pc' := 69) (lv' := [(4, .int (z3 - z4)), (3, .int ((z2 + 1) + (mn z1 40))), (2, .int (mn z1 40)), (0, .ref v0), (1, .ref v1)]) (st' := [.ref v0, .ref z13, .int 0, .ref z12]) rfl ?_
  refine x_gI e rfl rfl fd_1_3 rfl (fun z14 e => ?_)
  refine wp_p (j := J_Address_replaceQuery) 3 (pc' := 75) (lv' := [(4, .int (z3 - z4)), (3, .int ((z2 + 1) + (mn z1 40))), (2, .int (mn z1 40)), (0, .ref v0), (1, .ref v1)]) (st' := [.int (mn z1 40), .int (z14 + 1), .ref z13, .int 0, .ref z12]) rfl ?_
  refine x_cp e rfl (.inr rfl) rfl (fun g15 e => ?_)
  refine wp_p (j := J_Address_replaceQuery) 2 (pc' := 80) (lv' := [(4, .int (z3 - z4)), (3, .int ((z2 + 1) + (mn z1 40))), (2, .int (mn z1 40)), (0, .ref v0), (1, .ref v1)]) (st' := [.int ((z2 + 1) + (mn z1 40)), .ref v0]) rfl ?_
  refine x_pI e rfl rfl fw_1_4 rfl (fun g16 e => ?_)
  refine wp_p (j := J_Address_replaceQuery) 4 (pc' := 88) (lv' := [(4, .int (z3 - z4)), (3, .int ((z2 + 1) + (mn z1 40))), (2, .int (mn z1 40)), (0, .ref v0), (1, .ref v1)]) (st' := [.int (((z2 + 1) + (mn z1 40)) + (z3 - z4)), .ref v0]) rfl ?_
  refine x_pI e rfl rfl fw_1_5 rfl (fun g17 e => ?_)
  have e := Option.some.inj e; subst e; exact wp_vret rfl rfl c
def cL_Acts_send_100 (L : Nat) (xs : Nat → Int32) (Q : Option Value → ab_H → Prop) (v0 : Nat) (v1 : Int32) (out : (Int32 × Int32 × g_S) ⊕ (g_S)) : Prop := match out with
  | .inl s => wp (ab_ext L xs) J_Acts_send 100 [(0, .ref v0), (1, .int v1), (3, .int s.1), (4, .int s.2.1)] [] (hp s.2.2) Q
  | .inr s => wp (ab_ext L xs) J_Acts_send 244 [(0, .ref v0)] [] (hp s) Q
noncomputable def k_Acts_send_203 (v0 : Nat) (v1 : Int32) (v4 : Int32) (v5 : Nat) (v6 : Option Nat) (g : g_S) : Option ((Int32 × Int32 × g_S) ⊕ (g_S)) :=
  (rQ g 100 v0 19).bind fun z1 =>
  oc v6
    (fun q2 =>
    (rQ g 104 q2 1).bind fun z3 =>
    (rI g 104 q2 2).bind fun z4 =>
    (vc g 104 z1 (M_Bytes_addAll z1 z3 0 z4 g)).bind fun g5 =>
    (rQ g5 100 v0 19).bind fun z6 =>
    (vc g5 104 z6 (M_Bytes_add z6 61 g5)).bind fun g7 =>
    (vc g7 100 v0 (M_Acts_addSent v0 v5 g7)).bind fun g8 =>
    some (.inl (0, v4 + 1, g8)))
    (
    none)
set_option maxRecDepth 20000 in
theorem x_Acts_send_203 {L : Nat} {xs : Nat → Int32} {Q : Option Value → ab_H → Prop} {v0 : Nat} {v1 : Int32} {v4 : Int32} {v5 : Nat} {v6 : Option Nat} {g : g_S} {out : (Int32 × Int32 × g_S) ⊕ (g_S)} (e : k_Acts_send_203 v0 v1 v4 v5 v6 g = some out) (c : cL_Acts_send_100 L xs Q v0 v1 out) : wp (ab_ext L xs) J_Acts_send 203 [(0, .ref v0), (1, .int v1), (4, .int v4), (5, .ref v5), (6, va_rf v6)] [] (hp g) Q := by
  unfold k_Acts_send_203 at e
  refine wp_p (j := J_Acts_send) 3 (pc' := 206) (lv' := [(3, .int 0), (0, .ref v0), (1, .int v1), (4, .int v4), (5, .ref v5), (6, va_rf v6)]) (st' := [.ref v0]) rfl ?_
  refine x_gQ e rfl rfl fd_0_19 rfl (fun z1 e => ?_)
  rcases v6 with _ | q2
  · replace e := oc_n e
    show wp (ab_ext L xs) J_Acts_send 209 [(3, .int 0), (0, .ref v0), (1, .int v1), (4, .int v4), (5, .ref v5), (6, .null)] [.ref z1] (hp g) Q
    refine wp_p (j := J_Acts_send) 1 (pc' := 211) (lv' := [(3, .int 0), (0, .ref v0), (1, .int v1), (4, .int v4), (5, .ref v5), (6, .null)]) (st' := [.null, .ref z1]) rfl ?_
    cases e
  · replace e := oc_s e
    show wp (ab_ext L xs) J_Acts_send 209 [(3, .int 0), (0, .ref v0), (1, .int v1), (4, .int v4), (5, .ref v5), (6, .ref q2)] [.ref z1] (hp g) Q
    refine wp_p (j := J_Acts_send) 1 (pc' := 211) (lv' := [(3, .int 0), (0, .ref v0), (1, .int v1), (4, .int v4), (5, .ref v5), (6, .ref q2)]) (st' := [.ref q2, .ref z1]) rfl ?_
    refine x_gQ e rfl rfl fd_4_1 rfl (fun z3 e => ?_)
    refine wp_p (j := J_Acts_send) 2 (pc' := 217) (lv' := [(3, .int 0), (0, .ref v0), (1, .int v1), (4, .int v4), (5, .ref v5), (6, .ref q2)]) (st' := [.ref q2, .int 0, .ref z3, .ref z1]) rfl ?_
    refine x_gI e rfl rfl fd_4_2 rfl (fun z4 e => ?_)
    refine x_cv0 (As := [.ref z3, .int 0, .int z4]) (rest := []) e rfl rfl rfl rfl rfl rfl (fun h => d_Bytes_addAll h ⟨rfl, rfl⟩) (fun g5 e => ?_)
    refine wp_p (j := J_Acts_send) 1 (pc' := 224) (lv' := [(3, .int 0), (0, .ref v0), (1, .int v1), (4, .int v4), (5, .ref v5), (6, .ref q2)]) (st' := [.ref v0]) rfl ?_
    refine x_gQ e rfl rfl fd_0_19 rfl (fun z6 e => ?_)
    refine wp_p (j := J_Acts_send) 1 (pc' := 229) (lv' := [(3, .int 0), (0, .ref v0), (1, .int v1), (4, .int v4), (5, .ref v5), (6, .ref q2)]) (st' := [.int 61, .ref z6]) rfl ?_
    refine x_cv0 (As := [.int 61]) (rest := []) e rfl rfl rfl rfl rfl rfl (fun h => d_Bytes_add h ⟨rfl, rfl⟩) (fun g7 e => ?_)
    refine wp_p (j := J_Acts_send) 2 (pc' := 235) (lv' := [(3, .int 0), (0, .ref v0), (1, .int v1), (4, .int v4), (5, .ref v5), (6, .ref q2)]) (st' := [.ref v5, .ref v0]) rfl ?_
    refine x_cv0 (As := [.ref v5]) (rest := []) e rfl rfl rfl rfl rfl rfl (fun h => d_Acts_addSent h ⟨rfl, rfl⟩) (fun g8 e => ?_)
    refine wp_p (j := J_Acts_send) 2 (pc' := 100) (lv' := [(4, .int (v4 + 1)), (3, .int 0), (0, .ref v0), (1, .int v1), (5, .ref v5), (6, .ref q2)]) (st' := []) rfl ?_
    have e := Option.some.inj e; subst e; exact wp_lv (lv' := [(0, .ref v0), (1, .int v1), (3, .int 0), (4, .int (v4 + 1))]) rfl ⟨rfl, rfl, rfl, rfl, trivial⟩ c
noncomputable def k_Acts_send_190 (v0 : Nat) (v1 : Int32) (v3 : Int32) (v4 : Int32) (v5 : Nat) (v6 : Option Nat) (g : g_S) : Option ((Int32 × Int32 × g_S) ⊕ (g_S)) :=
  if v3 = 0 then
    (rQ g 100 v0 19).bind fun z1 =>
    (vc g 104 z1 (M_Bytes_add z1 38 g)).bind fun g2 =>
    k_Acts_send_203 v0 v1 v4 v5 v6 g2
  else
    k_Acts_send_203 v0 v1 v4 v5 v6 g
set_option maxRecDepth 20000 in
theorem x_Acts_send_190 {L : Nat} {xs : Nat → Int32} {Q : Option Value → ab_H → Prop} {v0 : Nat} {v1 : Int32} {v3 : Int32} {v4 : Int32} {v5 : Nat} {v6 : Option Nat} {g : g_S} {out : (Int32 × Int32 × g_S) ⊕ (g_S)} (e : k_Acts_send_190 v0 v1 v3 v4 v5 v6 g = some out) (c : cL_Acts_send_100 L xs Q v0 v1 out) : wp (ab_ext L xs) J_Acts_send 190 [(0, .ref v0), (1, .int v1), (3, .int v3), (4, .int v4), (5, .ref v5), (6, va_rf v6)] [] (hp g) Q := by
  unfold k_Acts_send_190 at e
  refine wp_p (j := J_Acts_send) 1 (pc' := 191) (lv' := [(0, .ref v0), (1, .int v1), (3, .int v3), (4, .int v4), (5, .ref v5), (6, va_rf v6)]) (st' := [.int v3]) rfl ?_
  refine z_ne e rfl (fun e => ?_) (fun e => ?_)
  · refine wp_p (j := J_Acts_send) 1 (pc' := 195) (lv' := [(0, .ref v0), (1, .int v1), (3, .int v3), (4, .int v4), (5, .ref v5), (6, va_rf v6)]) (st' := [.ref v0]) rfl ?_
    refine x_gQ e rfl rfl fd_0_19 rfl (fun z1 e => ?_)
    refine wp_p (j := J_Acts_send) 1 (pc' := 200) (lv' := [(0, .ref v0), (1, .int v1), (3, .int v3), (4, .int v4), (5, .ref v5), (6, va_rf v6)]) (st' := [.int 38, .ref z1]) rfl ?_
    refine x_cv0 (As := [.int 38]) (rest := []) e rfl rfl rfl rfl rfl rfl (fun h => d_Bytes_add h ⟨rfl, rfl⟩) (fun g2 e => ?_)
    exact wp_lv (lv' := [(0, .ref v0), (1, .int v1), (4, .int v4), (5, .ref v5), (6, va_rf v6)]) rfl ⟨rfl, rfl, rfl, rfl, rfl, trivial⟩ (x_Acts_send_203 e c)
  · exact wp_lv (lv' := [(0, .ref v0), (1, .int v1), (4, .int v4), (5, .ref v5), (6, va_rf v6)]) rfl ⟨rfl, rfl, rfl, rfl, rfl, trivial⟩ (x_Acts_send_203 e c)
noncomputable def k_Acts_send_159 (v0 : Nat) (v1 : Int32) (v3 : Int32) (v4 : Int32) (v5 : Nat) (w0 : Option Nat) (g : g_S) : Option ((Int32 × Int32 × g_S) ⊕ (g_S)) :=
  oc w0
    (fun q1 =>
    (vc g 104 q1 (M_Bytes_isNameWhole q1 g)).bind fun z2 =>
    if z2 = 0 then
      some (.inl (v3, v4 + 1, g))
    else
      (rI g 107 v5 16).bind fun z3 =>
      if z3 = 0 then
        (rI g 107 v5 15).bind fun z4 =>
        if z4 = 0 then
          k_Acts_send_190 v0 v1 v3 v4 v5 (some q1) g
        else
          some (.inl (v3, v4 + 1, g))
      else
        k_Acts_send_190 v0 v1 v3 v4 v5 (some q1) g)
    (
    some (.inl (v3, v4 + 1, g)))
set_option maxRecDepth 20000 in
theorem x_Acts_send_159 {L : Nat} {xs : Nat → Int32} {Q : Option Value → ab_H → Prop} {v0 : Nat} {v1 : Int32} {v3 : Int32} {v4 : Int32} {v5 : Nat} {w0 : Option Nat} {g : g_S} {out : (Int32 × Int32 × g_S) ⊕ (g_S)} (e : k_Acts_send_159 v0 v1 v3 v4 v5 w0 g = some out) (c : cL_Acts_send_100 L xs Q v0 v1 out) : wp (ab_ext L xs) J_Acts_send 159 [(0, .ref v0), (1, .int v1), (3, .int v3), (4, .int v4), (5, .ref v5)] [va_rf w0] (hp g) Q := by
  unfold k_Acts_send_159 at e
  rcases w0 with _ | q1
  · replace e := oc_n e
    show wp (ab_ext L xs) J_Acts_send 159 [(0, .ref v0), (1, .int v1), (3, .int v3), (4, .int v4), (5, .ref v5)] [.null] (hp g) Q
    refine wp_p (j := J_Acts_send) 2 (pc' := 163) (lv' := [(6, .null), (0, .ref v0), (1, .int v1), (3, .int v3), (4, .int v4), (5, .ref v5)]) (st' := [.null]) rfl ?_
    refine wp_b (pc' := 238) (st' := []) rfl rfl rfl ?_
    refine wp_p (j := J_Acts_send) 2 (pc' := 100) (lv' := [(4, .int (v4 + 1)), (6, .null), (0, .ref v0), (1, .int v1), (3, .int v3), (5, .ref v5)]) (st' := []) rfl ?_
    have e := Option.some.inj e; subst e; exact wp_lv (lv' := [(0, .ref v0), (1, .int v1), (3, .int v3), (4, .int (v4 + 1))]) rfl ⟨rfl, rfl, rfl, rfl, trivial⟩ c
  · replace e := oc_s e
    show wp (ab_ext L xs) J_Acts_send 159 [(0, .ref v0), (1, .int v1), (3, .int v3), (4, .int v4), (5, .ref v5)] [.ref q1] (hp g) Q
    refine wp_p (j := J_Acts_send) 2 (pc' := 163) (lv' := [(6, .ref q1), (0, .ref v0), (1, .int v1), (3, .int v3), (4, .int v4), (5, .ref v5)]) (st' := [.ref q1]) rfl ?_
    refine wp_b (pc' := 166) (st' := []) rfl rfl rfl ?_
    refine wp_p (j := J_Acts_send) 1 (pc' := 168) (lv' := [(6, .ref q1), (0, .ref v0), (1, .int v1), (3, .int v3), (4, .int v4), (5, .ref v5)]) (st' := [.ref q1]) rfl ?_
    refine x_cv1 (As := []) (rest := []) Value.int e rfl rfl rfl rfl rfl rfl (fun h => d_Bytes_isNameWhole h ⟨rfl, rfl⟩) (fun z2 e => ?_)
    refine z_eq e rfl (fun e => ?_) (fun e => ?_)
    · refine wp_p (j := J_Acts_send) 2 (pc' := 100) (lv' := [(4, .int (v4 + 1)), (6, .ref q1), (0, .ref v0), (1, .int v1), (3, .int v3), (5, .ref v5)]) (st' := []) rfl ?_
      have e := Option.some.inj e; subst e; exact wp_lv (lv' := [(0, .ref v0), (1, .int v1), (3, .int v3), (4, .int (v4 + 1))]) rfl ⟨rfl, rfl, rfl, rfl, trivial⟩ c
    · refine wp_p (j := J_Acts_send) 1 (pc' := 176) (lv' := [(6, .ref q1), (0, .ref v0), (1, .int v1), (3, .int v3), (4, .int v4), (5, .ref v5)]) (st' := [.ref v5]) rfl ?_
      refine x_gI e rfl rfl fd_7_16 rfl (fun z3 e => ?_)
      refine z_ne e rfl (fun e => ?_) (fun e => ?_)
      · refine wp_p (j := J_Acts_send) 1 (pc' := 184) (lv' := [(6, .ref q1), (0, .ref v0), (1, .int v1), (3, .int v3), (4, .int v4), (5, .ref v5)]) (st' := [.ref v5]) rfl ?_
        refine x_gI e rfl rfl fd_7_15 rfl (fun z4 e => ?_)
        refine z_ne e rfl (fun e => ?_) (fun e => ?_)
        · exact wp_lv (lv' := [(0, .ref v0), (1, .int v1), (3, .int v3), (4, .int v4), (5, .ref v5), (6, va_rf (some q1))]) rfl ⟨rfl, rfl, rfl, rfl, rfl, rfl, trivial⟩ (x_Acts_send_190 e c)
        · refine wp_p (j := J_Acts_send) 2 (pc' := 100) (lv' := [(4, .int (v4 + 1)), (6, .ref q1), (0, .ref v0), (1, .int v1), (3, .int v3), (5, .ref v5)]) (st' := []) rfl ?_
          have e := Option.some.inj e; subst e; exact wp_lv (lv' := [(0, .ref v0), (1, .int v1), (3, .int v3), (4, .int (v4 + 1))]) rfl ⟨rfl, rfl, rfl, rfl, trivial⟩ c
      · exact wp_lv (lv' := [(0, .ref v0), (1, .int v1), (3, .int v3), (4, .int v4), (5, .ref v5), (6, va_rf (some q1))]) rfl ⟨rfl, rfl, rfl, rfl, rfl, rfl, trivial⟩ (x_Acts_send_190 e c)
noncomputable def b_Acts_send_100 (v0 : Nat) (v1 : Int32) (v3 : Int32) (v4 : Int32) (g : g_S) : Option ((Int32 × Int32 × g_S) ⊕ (g_S)) :=
  (rQ g 100 v0 0).bind fun z1 =>
  (rQ g 110 z1 0).bind fun z2 =>
  (aQ g 5 z2 v1).bind fun z3 =>
  (rI g 107 z3 9).bind fun z4 =>
  if v4 < z4 then
    (rQ g 100 v0 0).bind fun z5 =>
    (rQ g 110 z5 0).bind fun z6 =>
    (rQ g 100 v0 0).bind fun z7 =>
    (rQ g 110 z7 2).bind fun z8 =>
    (aI g 0 z8 v4).bind fun z9 =>
    (aQ g 5 z6 z9).bind fun z10 =>
    (rI g 107 z10 0).bind fun z11 =>
    if z11 = 13 then
      (vc g 107 z10 (M_Node_read z10 1000029 g)).bind fun z12 =>
      oc z12
        (fun q13 =>
        k_Acts_send_159 v0 v1 v3 v4 z10 (some q13) g)
        (
        k_Acts_send_159 v0 v1 v3 v4 z10 none g)
    else
      k_Acts_send_159 v0 v1 v3 v4 z10 none g
  else
    some (.inr g)
set_option maxRecDepth 20000 in
theorem y_Acts_send_100 {L : Nat} {xs : Nat → Int32} {Q : Option Value → ab_H → Prop} {v0 : Nat} {v1 : Int32} {v3 : Int32} {v4 : Int32} {g : g_S} {out : (Int32 × Int32 × g_S) ⊕ (g_S)} (e : b_Acts_send_100 v0 v1 v3 v4 g = some out) (c : cL_Acts_send_100 L xs Q v0 v1 out) : wp (ab_ext L xs) J_Acts_send 100 [(0, .ref v0), (1, .int v1), (3, .int v3), (4, .int v4)] [] (hp g) Q := by
  unfold b_Acts_send_100 at e
  refine wp_p (j := J_Acts_send) 2 (pc' := 103) (lv' := [(0, .ref v0), (1, .int v1), (3, .int v3), (4, .int v4)]) (st' := [.ref v0, .int v4]) rfl ?_
  refine x_gQ e rfl rfl fd_0_0 rfl (fun z1 e => ?_)
  refine x_gQ e rfl rfl fd_10_0 rfl (fun z2 e => ?_)
  refine wp_p (j := J_Acts_send) 1 (pc' := 110) (lv' := [(0, .ref v0), (1, .int v1), (3, .int v3), (4, .int v4)]) (st' := [.int v1, .ref z2, .int v4]) rfl ?_
  refine x_aQ e rfl rfl rfl (fun z3 e => ?_)
  refine x_gI e rfl rfl fd_7_9 rfl (fun z4 e => ?_)
  refine x_ge e rfl (fun e => ?_) (fun e => ?_)
  · refine wp_p (j := J_Acts_send) 1 (pc' := 118) (lv' := [(0, .ref v0), (1, .int v1), (3, .int v3), (4, .int v4)]) (st' := [.ref v0]) rfl ?_
    refine x_gQ e rfl rfl fd_0_0 rfl (fun z5 e => ?_)
    refine x_gQ e rfl rfl fd_10_0 rfl (fun z6 e => ?_)
    refine wp_p (j := J_Acts_send) 1 (pc' := 125) (lv' := [(0, .ref v0), (1, .int v1), (3, .int v3), (4, .int v4)]) (st' := [.ref v0, .ref z6]) rfl ?_
    refine x_gQ e rfl rfl fd_0_0 rfl (fun z7 e => ?_)
    refine x_gQ e rfl rfl fd_10_2 rfl (fun z8 e => ?_)
    refine wp_p (j := J_Acts_send) 1 (pc' := 133) (lv' := [(0, .ref v0), (1, .int v1), (3, .int v3), (4, .int v4)]) (st' := [.int v4, .ref z8, .ref z6]) rfl ?_
    refine x_aI e rfl rfl (fun z9 e => ?_)
    refine x_aQ e rfl rfl rfl (fun z10 e => ?_)
    refine wp_p (j := J_Acts_send) 2 (pc' := 139) (lv' := [(5, .ref z10), (0, .ref v0), (1, .int v1), (3, .int v3), (4, .int v4)]) (st' := [.ref z10]) rfl ?_
    refine x_gI e rfl rfl fd_7_0 rfl (fun z11 e => ?_)
    refine wp_p (j := J_Acts_send) 1 (pc' := 144) (lv' := [(5, .ref z10), (0, .ref v0), (1, .int v1), (3, .int v3), (4, .int v4)]) (st' := [.int 13, .int z11]) rfl ?_
    refine x_ne e rfl (fun e => ?_) (fun e => ?_)
    · refine wp_p (j := J_Acts_send) 1 (pc' := 149) (lv' := [(5, .ref z10), (0, .ref v0), (1, .int v1), (3, .int v3), (4, .int v4)]) (st' := [.ref z10]) rfl ?_
      refine x_lsw rfl rfl ?_
      refine x_cv1 (As := [.ref 1000029]) (rest := []) va_rf e rfl rfl rfl rfl rfl rfl (fun h => d_Node_read h ⟨rfl, rfl⟩) (fun z12 e => ?_)
      rcases z12 with _ | q13
      · replace e := oc_n e
        show wp (ab_ext L xs) J_Acts_send 155 [(5, .ref z10), (0, .ref v0), (1, .int v1), (3, .int v3), (4, .int v4)] [.null] (hp g) Q
        refine wp_p (j := J_Acts_send) 1 (pc' := 159) (lv' := [(5, .ref z10), (0, .ref v0), (1, .int v1), (3, .int v3), (4, .int v4)]) (st' := [.null]) rfl ?_
        exact wp_lv (lv' := [(0, .ref v0), (1, .int v1), (3, .int v3), (4, .int v4), (5, .ref z10)]) rfl ⟨rfl, rfl, rfl, rfl, rfl, trivial⟩ (x_Acts_send_159 e c)
      · replace e := oc_s e
        show wp (ab_ext L xs) J_Acts_send 155 [(5, .ref z10), (0, .ref v0), (1, .int v1), (3, .int v3), (4, .int v4)] [.ref q13] (hp g) Q
        refine wp_p (j := J_Acts_send) 1 (pc' := 159) (lv' := [(5, .ref z10), (0, .ref v0), (1, .int v1), (3, .int v3), (4, .int v4)]) (st' := [.ref q13]) rfl ?_
        exact wp_lv (lv' := [(0, .ref v0), (1, .int v1), (3, .int v3), (4, .int v4), (5, .ref z10)]) rfl ⟨rfl, rfl, rfl, rfl, rfl, trivial⟩ (x_Acts_send_159 e c)
    · refine wp_p (j := J_Acts_send) 1 (pc' := 159) (lv' := [(5, .ref z10), (0, .ref v0), (1, .int v1), (3, .int v3), (4, .int v4)]) (st' := [.null]) rfl ?_
      exact wp_lv (lv' := [(0, .ref v0), (1, .int v1), (3, .int v3), (4, .int v4), (5, .ref z10)]) rfl ⟨rfl, rfl, rfl, rfl, rfl, trivial⟩ (x_Acts_send_159 e c)
  · have e := Option.some.inj e; subst e; exact wp_lv (lv' := [(0, .ref v0)]) rfl ⟨rfl, trivial⟩ c
noncomputable def L_Acts_send_100 (v0 : Nat) (v1 : Int32) (v3 : Int32) (v4 : Int32) (g : g_S) : Option (g_S) := it (fun s : Int32 × Int32 × g_S => b_Acts_send_100 v0 v1 s.1 s.2.1 s.2.2) (v3, v4, g)
theorem l_Acts_send_100 {L : Nat} {xs : Nat → Int32} {Q : Option Value → ab_H → Prop} {v0 : Nat} {v1 : Int32} {v3 : Int32} {v4 : Int32} {g : g_S} {r : g_S} (e : L_Acts_send_100 v0 v1 v3 v4 g = some r) (c : cL_Acts_send_100 L xs Q v0 v1 (.inr r)) : wp (ab_ext L xs) J_Acts_send 100 [(0, .ref v0), (1, .int v1), (3, .int v3), (4, .int v4)] [] (hp g) Q :=
  it_wp (P := fun s : Int32 × Int32 × g_S => wp (ab_ext L xs) J_Acts_send 100 [(0, .ref v0), (1, .int v1), (3, .int s.1), (4, .int s.2.1)] [] (hp s.2.2) Q) (E := fun r => cL_Acts_send_100 L xs Q v0 v1 (.inr r)) (fun s out e c => y_Acts_send_100 e (by cases out <;> exact c)) e c
theorem L_Acts_send_100_eq (v0 : Nat) (v1 : Int32) (v3 : Int32) (v4 : Int32) (g : g_S) : L_Acts_send_100 v0 v1 v3 v4 g = itc (b_Acts_send_100 v0 v1 v3 v4 g) (fun s => L_Acts_send_100 v0 v1 s.1 s.2.1 s.2.2) := it_eq2 (fun s : Int32 × Int32 × g_S => b_Acts_send_100 v0 v1 s.1 s.2.1 s.2.2) (v3, v4, g)
noncomputable def k_Acts_send_70 (v0 : Nat) (v1 : Int32) (g : g_S) : Option g_S :=
  (rQ g 100 v0 19).bind fun z1 =>
  (vc g 104 z1 (M_Bytes_clear z1 g)).bind fun g2 =>
  (rQ g2 100 v0 0).bind fun z3 =>
  (vc g2 110 z3 (M_Tree_list z3 g2)).bind fun g4 =>
  (rQ g4 100 v0 0).bind fun z5 =>
  (rQ g4 110 z5 0).bind fun z6 =>
  (aQ g4 5 z6 v1).bind fun z7 =>
  (rI g4 107 z7 8).bind fun z8 =>
  (L_Acts_send_100 v0 v1 1 z8 g4).bind <| fun g11 =>
  (rQ g11 100 v0 1).bind fun z12 =>
  (rQ g11 106 z12 14).bind fun z13 =>
  (rQ g11 100 v0 19).bind fun z14 =>
  (vc g11 101 z13 (M_Address_replaceQuery z13 z14 g11)).bind fun g15 =>
  (rQ g15 100 v0 1).bind fun z16 =>
  (vc g15 106 z16 (M_Net_setOff z16 g15)).bind fun g17 =>
  some g17
set_option maxRecDepth 20000 in
theorem x_Acts_send_70 {L : Nat} {xs : Nat → Int32} {Q : Option Value → ab_H → Prop} {v0 : Nat} {v1 : Int32} {g : g_S} {out : g_S} (e : k_Acts_send_70 v0 v1 g = some out) (c : Q none (hp out)) : wp (ab_ext L xs) J_Acts_send 70 [(0, .ref v0), (1, .int v1)] [] (hp g) Q := by
  unfold k_Acts_send_70 at e
  refine wp_p (j := J_Acts_send) 1 (pc' := 71) (lv' := [(0, .ref v0), (1, .int v1)]) (st' := [.ref v0]) rfl ?_
  refine x_gQ e rfl rfl fd_0_19 rfl (fun z1 e => ?_)
  refine x_cv0 (As := []) (rest := []) e rfl rfl rfl rfl rfl rfl (fun h => d_Bytes_clear h ⟨rfl, rfl⟩) (fun g2 e => ?_)
  refine wp_p (j := J_Acts_send) 3 (pc' := 80) (lv' := [(3, .int 1), (0, .ref v0), (1, .int v1)]) (st' := [.ref v0]) rfl ?_
  refine x_gQ e rfl rfl fd_0_0 rfl (fun z3 e => ?_)
  refine x_cv0 (As := []) (rest := []) e rfl rfl rfl rfl rfl rfl (fun h => d_Tree_list h ⟨rfl, rfl⟩) (fun g4 e => ?_)
  refine wp_p (j := J_Acts_send) 1 (pc' := 87) (lv' := [(3, .int 1), (0, .ref v0), (1, .int v1)]) (st' := [.ref v0]) rfl ?_
  refine x_gQ e rfl rfl fd_0_0 rfl (fun z5 e => ?_)
  refine x_gQ e rfl rfl fd_10_0 rfl (fun z6 e => ?_)
  refine wp_p (j := J_Acts_send) 1 (pc' := 94) (lv' := [(3, .int 1), (0, .ref v0), (1, .int v1)]) (st' := [.int v1, .ref z6]) rfl ?_
  refine x_aQ e rfl rfl rfl (fun z7 e => ?_)
  refine x_gI e rfl rfl fd_7_8 rfl (fun z8 e => ?_)
  refine wp_p (j := J_Acts_send) 1 (pc' := 100) (lv' := [(4, .int z8), (3, .int 1), (0, .ref v0), (1, .int v1)]) (st' := []) rfl ?_
  obtain ⟨g11, h10, e⟩ := bd e
  refine wp_lv (lv' := [(0, .ref v0), (1, .int v1), (3, .int 1), (4, .int z8)]) rfl ⟨rfl, rfl, rfl, rfl, trivial⟩ ?_
  refine l_Acts_send_100 h10 ?_
  show wp (ab_ext L xs) J_Acts_send 244 [(0, .ref v0)] [] (hp g11) Q
  refine wp_p (j := J_Acts_send) 1 (pc' := 245) (lv' := [(0, .ref v0)]) (st' := [.ref v0]) rfl ?_
  refine x_gQ e rfl rfl fd_0_1 rfl (fun z12 e => ?_)
  refine x_gQ e rfl rfl fd_6_14 rfl (fun z13 e => ?_)
  refine wp_p (j := J_Acts_send) 1 (pc' := 252) (lv' := [(0, .ref v0)]) (st' := [.ref v0, .ref z13]) rfl ?_
  refine x_gQ e rfl rfl fd_0_19 rfl (fun z14 e => ?_)
  refine x_cv0 (As := [.ref z14]) (rest := []) e rfl rfl rfl rfl rfl rfl (fun h => d_Address_replaceQuery h ⟨rfl, rfl⟩) (fun g15 e => ?_)
  refine wp_p (j := J_Acts_send) 1 (pc' := 259) (lv' := [(0, .ref v0)]) (st' := [.ref v0]) rfl ?_
  refine x_gQ e rfl rfl fd_0_1 rfl (fun z16 e => ?_)
  refine x_cv0 (As := []) (rest := []) e rfl rfl rfl rfl rfl rfl (fun h => d_Net_setOff h ⟨rfl, rfl⟩) (fun g17 e => ?_)
  have e := Option.some.inj e; subst e; exact wp_vret rfl rfl c
noncomputable def M_Acts_send (v0 : Nat) (v1 : Int32) (g : g_S) : Option g_S :=
  (rQ g 100 v0 0).bind fun z1 =>
  (rQ g 110 z1 0).bind fun z2 =>
  (aQ g 5 z2 v1).bind fun z3 =>
  (vc g 107 z3 (M_Node_read z3 1000028 g)).bind fun z4 =>
  oc z4
    (fun q5 =>
    (rQ g 100 v0 1).bind fun z6 =>
    (rQ g 106 z6 14).bind fun z7 =>
    (rQ g 104 q5 1).bind fun z8 =>
    (rI g 104 q5 2).bind fun z9 =>
    (rQ g 100 v0 1).bind fun z10 =>
    (rQ g 106 z10 13).bind fun z11 =>
    c2 (vc g 101 z7 (M_Address_read z7 z8 0 z9 z11 g)) fun z12 g13 =>
    if z12 = 0 then
      some g13
    else
      k_Acts_send_70 v0 v1 g13)
    (
    (rQ g 100 v0 1).bind fun z14 =>
    (rQ g 106 z14 14).bind fun z15 =>
    (rQ g 100 v0 1).bind fun z16 =>
    (rQ g 106 z16 13).bind fun z17 =>
    (vc g 101 z15 (M_Address_copy z15 z17 g)).bind fun g18 =>
    k_Acts_send_70 v0 v1 g18)
set_option maxRecDepth 20000 in
theorem d_Acts_send {L : Nat} {xs : Nat → Int32} {Q : Option Value → ab_H → Prop} {v0 : Nat} {v1 : Int32} {g : g_S} {out : g_S} (e : M_Acts_send v0 v1 g = some out) (c : Q none (hp out)) : mw (ab_ext L xs) J_Acts_send [.ref v0, .int v1] (hp g) Q := by
  unfold M_Acts_send at e
  refine wp_p (j := J_Acts_send) 1 (pc' := 1) (lv' := [(0, .ref v0), (1, .int v1)]) (st' := [.ref v0]) rfl ?_
  refine x_gQ e rfl rfl fd_0_0 rfl (fun z1 e => ?_)
  refine x_gQ e rfl rfl fd_10_0 rfl (fun z2 e => ?_)
  refine wp_p (j := J_Acts_send) 1 (pc' := 8) (lv' := [(0, .ref v0), (1, .int v1)]) (st' := [.int v1, .ref z2]) rfl ?_
  refine x_aQ e rfl rfl rfl (fun z3 e => ?_)
  refine x_lsw rfl rfl ?_
  refine x_cv1 (As := [.ref 1000028]) (rest := []) va_rf e rfl rfl rfl rfl rfl rfl (fun h => d_Node_read h ⟨rfl, rfl⟩) (fun z4 e => ?_)
  rcases z4 with _ | q5
  · replace e := oc_n e
    show wp (ab_ext L xs) J_Acts_send 15 [(0, .ref v0), (1, .int v1)] [.null] (hp g) Q
    refine wp_p (j := J_Acts_send) 2 (pc' := 17) (lv' := [(2, .null), (0, .ref v0), (1, .int v1)]) (st' := [.null]) rfl ?_
    refine wp_b (pc' := 20) (st' := []) rfl rfl rfl ?_
    refine wp_p (j := J_Acts_send) 1 (pc' := 21) (lv' := [(2, .null), (0, .ref v0), (1, .int v1)]) (st' := [.ref v0]) rfl ?_
    refine x_gQ e rfl rfl fd_0_1 rfl (fun z14 e => ?_)
    refine x_gQ e rfl rfl fd_6_14 rfl (fun z15 e => ?_)
    refine wp_p (j := J_Acts_send) 1 (pc' := 28) (lv' := [(2, .null), (0, .ref v0), (1, .int v1)]) (st' := [.ref v0, .ref z15]) rfl ?_
    refine x_gQ e rfl rfl fd_0_1 rfl (fun z16 e => ?_)
    refine x_gQ e rfl rfl fd_6_13 rfl (fun z17 e => ?_)
    refine x_cv0 (As := [.ref z17]) (rest := []) e rfl rfl rfl rfl rfl rfl (fun h => d_Address_copy h ⟨rfl, rfl⟩) (fun g18 e => ?_)
    refine wp_p (j := J_Acts_send) 1 (pc' := 70) (lv' := [(2, .null), (0, .ref v0), (1, .int v1)]) (st' := []) rfl ?_
    exact wp_lv (lv' := [(0, .ref v0), (1, .int v1)]) rfl ⟨rfl, rfl, trivial⟩ (x_Acts_send_70 e c)
  · replace e := oc_s e
    show wp (ab_ext L xs) J_Acts_send 15 [(0, .ref v0), (1, .int v1)] [.ref q5] (hp g) Q
    refine wp_p (j := J_Acts_send) 2 (pc' := 17) (lv' := [(2, .ref q5), (0, .ref v0), (1, .int v1)]) (st' := [.ref q5]) rfl ?_
    refine wp_b (pc' := 40) (st' := []) rfl rfl rfl ?_
    refine wp_p (j := J_Acts_send) 1 (pc' := 41) (lv' := [(2, .ref q5), (0, .ref v0), (1, .int v1)]) (st' := [.ref v0]) rfl ?_
    refine x_gQ e rfl rfl fd_0_1 rfl (fun z6 e => ?_)
    refine x_gQ e rfl rfl fd_6_14 rfl (fun z7 e => ?_)
    refine wp_p (j := J_Acts_send) 1 (pc' := 48) (lv' := [(2, .ref q5), (0, .ref v0), (1, .int v1)]) (st' := [.ref q5, .ref z7]) rfl ?_
    refine x_gQ e rfl rfl fd_4_1 rfl (fun z8 e => ?_)
    refine wp_p (j := J_Acts_send) 2 (pc' := 53) (lv' := [(2, .ref q5), (0, .ref v0), (1, .int v1)]) (st' := [.ref q5, .int 0, .ref z8, .ref z7]) rfl ?_
    refine x_gI e rfl rfl fd_4_2 rfl (fun z9 e => ?_)
    refine wp_p (j := J_Acts_send) 1 (pc' := 57) (lv' := [(2, .ref q5), (0, .ref v0), (1, .int v1)]) (st' := [.ref v0, .int z9, .int 0, .ref z8, .ref z7]) rfl ?_
    refine x_gQ e rfl rfl fd_0_1 rfl (fun z10 e => ?_)
    refine x_gQ e rfl rfl fd_6_13 rfl (fun z11 e => ?_)
    refine x_cv2 (As := [.ref z8, .int 0, .int z9, .ref z11]) (rest := []) Value.int e rfl rfl rfl rfl rfl rfl (fun h => d_Address_read h ⟨rfl, rfl⟩) (fun z12 g13 e => ?_)
    refine z_ne e rfl (fun e => ?_) (fun e => ?_)
    · have e := Option.some.inj e; subst e; exact wp_vret rfl rfl c
    · exact wp_lv (lv' := [(0, .ref v0), (1, .int v1)]) rfl ⟨rfl, rfl, trivial⟩ (x_Acts_send_70 e c)
noncomputable def M_Acts_typeKey (v0 : Nat) (v1 : Int32) (g : g_S) : Option g_S :=
  (rQ g 100 v0 0).bind fun z1 =>
  (rL g 100 v0 6).bind fun z2 =>
  (vc g 110 z1 (M_Tree_alive z1 z2 g)).bind fun z3 =>
  if z3 = (-1) then
    some g
  else
    (rQ g 100 v0 0).bind fun z4 =>
    (rQ g 110 z4 0).bind fun z5 =>
    (aQ g 5 z5 z3).bind fun z6 =>
    (rQ g 107 z6 11).bind fun z7 =>
    if v1 = 8 then
      (vc g 104 z7 (M_Bytes_dropLast z7 g)).bind fun g8 =>
      some g8
    else
      if v1 = 10 then
        (rQ g 100 v0 0).bind fun z9 =>
        (vc g 110 z9 (M_Tree_around z9 z3 5 g)).bind fun z10 =>
        if z10 = (-1) then
          some g
        else
          (rQ g 100 v0 0).bind fun z11 =>
          (vc g 110 z11 (M_Tree_around z11 z3 5 g)).bind fun z12 =>
          (vc g 100 v0 (M_Acts_send v0 z12 g)).bind fun g13 =>
          some g13
      else
        (rI g 104 z7 2).bind fun z14 =>
        if z14 < 24 then
          (vc g 104 z7 (M_Bytes_add z7 v1 g)).bind fun g15 =>
          some g15
        else
          some g
set_option maxRecDepth 20000 in
theorem d_Acts_typeKey {L : Nat} {xs : Nat → Int32} {Q : Option Value → ab_H → Prop} {v0 : Nat} {v1 : Int32} {g : g_S} {out : g_S} (e : M_Acts_typeKey v0 v1 g = some out) (c : Q none (hp out)) : mw (ab_ext L xs) J_Acts_typeKey [.ref v0, .int v1] (hp g) Q := by
  unfold M_Acts_typeKey at e
  refine wp_p (j := J_Acts_typeKey) 1 (pc' := 1) (lv' := [(0, .ref v0), (1, .int v1)]) (st' := [.ref v0]) rfl ?_
  refine x_gQ e rfl rfl fd_0_0 rfl (fun z1 e => ?_)
  refine wp_p (j := J_Acts_typeKey) 1 (pc' := 5) (lv' := [(0, .ref v0), (1, .int v1)]) (st' := [.ref v0, .ref z1]) rfl ?_
  refine x_gL e rfl rfl fd_0_6 rfl (fun z2 e => ?_)
  refine x_cv1 (As := [.long z2]) (rest := []) Value.int e rfl rfl rfl rfl rfl rfl (fun h => d_Tree_alive h ⟨rfl, rfl⟩) (fun z3 e => ?_)
  refine wp_p (j := J_Acts_typeKey) 3 (pc' := 14) (lv' := [(2, .int z3), (0, .ref v0), (1, .int v1)]) (st' := [.int (-1), .int z3]) rfl ?_
  refine x_ne e rfl (fun e => ?_) (fun e => ?_)
  · have e := Option.some.inj e; subst e; exact wp_vret rfl rfl c
  · refine wp_p (j := J_Acts_typeKey) 1 (pc' := 19) (lv' := [(2, .int z3), (0, .ref v0), (1, .int v1)]) (st' := [.ref v0]) rfl ?_
    refine x_gQ e rfl rfl fd_0_0 rfl (fun z4 e => ?_)
    refine x_gQ e rfl rfl fd_10_0 rfl (fun z5 e => ?_)
    refine wp_p (j := J_Acts_typeKey) 1 (pc' := 26) (lv' := [(2, .int z3), (0, .ref v0), (1, .int v1)]) (st' := [.int z3, .ref z5]) rfl ?_
    refine x_aQ e rfl rfl rfl (fun z6 e => ?_)
    refine x_gQ e rfl rfl fd_7_11 rfl (fun z7 e => ?_)
    refine wp_p (j := J_Acts_typeKey) 3 (pc' := 34) (lv' := [(3, .ref z7), (2, .int z3), (0, .ref v0), (1, .int v1)]) (st' := [.int 8, .int v1]) rfl ?_
    refine x_ne e rfl (fun e => ?_) (fun e => ?_)
    · refine wp_p (j := J_Acts_typeKey) 1 (pc' := 38) (lv' := [(3, .ref z7), (2, .int z3), (0, .ref v0), (1, .int v1)]) (st' := [.ref z7]) rfl ?_
      refine x_cv0 (As := []) (rest := []) e rfl rfl rfl rfl rfl rfl (fun h => d_Bytes_dropLast h ⟨rfl, rfl⟩) (fun g8 e => ?_)
      refine wp_p (j := J_Acts_typeKey) 1 (pc' := 93) (lv' := [(3, .ref z7), (2, .int z3), (0, .ref v0), (1, .int v1)]) (st' := []) rfl ?_
      have e := Option.some.inj e; subst e; exact wp_vret rfl rfl c
    · refine wp_p (j := J_Acts_typeKey) 2 (pc' := 47) (lv' := [(3, .ref z7), (2, .int z3), (0, .ref v0), (1, .int v1)]) (st' := [.int 10, .int v1]) rfl ?_
      refine x_eq e rfl (fun e => ?_) (fun e => ?_)
      · refine wp_p (j := J_Acts_typeKey) 1 (pc' := 68) (lv' := [(3, .ref z7), (2, .int z3), (0, .ref v0), (1, .int v1)]) (st' := [.ref v0]) rfl ?_
        refine x_gQ e rfl rfl fd_0_0 rfl (fun z9 e => ?_)
        refine wp_p (j := J_Acts_typeKey) 2 (pc' := 73) (lv' := [(3, .ref z7), (2, .int z3), (0, .ref v0), (1, .int v1)]) (st' := [.int 5, .int z3, .ref z9]) rfl ?_
        refine x_cv1 (As := [.int z3, .int 5]) (rest := []) Value.int e rfl rfl rfl rfl rfl rfl (fun h => d_Tree_around h ⟨rfl, rfl⟩) (fun z10 e => ?_)
        refine wp_p (j := J_Acts_typeKey) 1 (pc' := 77) (lv' := [(3, .ref z7), (2, .int z3), (0, .ref v0), (1, .int v1)]) (st' := [.int (-1), .int z10]) rfl ?_
        refine x_eq e rfl (fun e => ?_) (fun e => ?_)
        · have e := Option.some.inj e; subst e; exact wp_vret rfl rfl c
        · refine wp_p (j := J_Acts_typeKey) 2 (pc' := 82) (lv' := [(3, .ref z7), (2, .int z3), (0, .ref v0), (1, .int v1)]) (st' := [.ref v0, .ref v0]) rfl ?_
          refine x_gQ e rfl rfl fd_0_0 rfl (fun z11 e => ?_)
          refine wp_p (j := J_Acts_typeKey) 2 (pc' := 87) (lv' := [(3, .ref z7), (2, .int z3), (0, .ref v0), (1, .int v1)]) (st' := [.int 5, .int z3, .ref z11, .ref v0]) rfl ?_
          refine x_cv1 (As := [.int z3, .int 5]) (rest := [.ref v0]) Value.int e rfl rfl rfl rfl rfl rfl (fun h => d_Tree_around h ⟨rfl, rfl⟩) (fun z12 e => ?_)
          refine x_cv0 (As := [.int z12]) (rest := []) e rfl rfl rfl rfl rfl rfl (fun h => d_Acts_send h ⟨rfl, rfl⟩) (fun g13 e => ?_)
          have e := Option.some.inj e; subst e; exact wp_vret rfl rfl c
      · refine wp_p (j := J_Acts_typeKey) 1 (pc' := 51) (lv' := [(3, .ref z7), (2, .int z3), (0, .ref v0), (1, .int v1)]) (st' := [.ref z7]) rfl ?_
        refine x_gI e rfl rfl fd_4_2 rfl (fun z14 e => ?_)
        refine wp_p (j := J_Acts_typeKey) 1 (pc' := 56) (lv' := [(3, .ref z7), (2, .int z3), (0, .ref v0), (1, .int v1)]) (st' := [.int 24, .int z14]) rfl ?_
        refine x_ge e rfl (fun e => ?_) (fun e => ?_)
        · refine wp_p (j := J_Acts_typeKey) 2 (pc' := 61) (lv' := [(3, .ref z7), (2, .int z3), (0, .ref v0), (1, .int v1)]) (st' := [.int v1, .ref z7]) rfl ?_
          refine x_cv0 (As := [.int v1]) (rest := []) e rfl rfl rfl rfl rfl rfl (fun h => d_Bytes_add h ⟨rfl, rfl⟩) (fun g15 e => ?_)
          refine wp_p (j := J_Acts_typeKey) 1 (pc' := 93) (lv' := [(3, .ref z7), (2, .int z3), (0, .ref v0), (1, .int v1)]) (st' := []) rfl ?_
          have e := Option.some.inj e; subst e; exact wp_vret rfl rfl c
        · have e := Option.some.inj e; subst e; exact wp_vret rfl rfl c
noncomputable def k_Acts_pressOn_140 (v3 : Int32) (g : g_S) : Option (Int32 × g_S) :=
  if v3 = (-1) then
    some (0, g)
  else
    some (1, g)
set_option maxRecDepth 20000 in
theorem x_Acts_pressOn_140 {L : Nat} {xs : Nat → Int32} {Q : Option Value → ab_H → Prop} {v3 : Int32} {g : g_S} {out : Int32 × g_S} (e : k_Acts_pressOn_140 v3 g = some out) (c : Q (some (.int out.1)) (hp out.2)) : wp (ab_ext L xs) J_Acts_pressOn 140 [(3, .int v3)] [] (hp g) Q := by
  unfold k_Acts_pressOn_140 at e
  refine wp_p (j := J_Acts_pressOn) 2 (pc' := 142) (lv' := [(3, .int v3)]) (st' := [.int (-1), .int v3]) rfl ?_
  refine x_eq e rfl (fun e => ?_) (fun e => ?_)
  · refine wp_p (j := J_Acts_pressOn) 1 (pc' := 150) (lv' := [(3, .int v3)]) (st' := [.int 0]) rfl ?_
    have e := Option.some.inj e; subst e; exact wp_iret (ty := .boolean) rfl rfl (by decide) c
  · refine wp_p (j := J_Acts_pressOn) 2 (pc' := 150) (lv' := [(3, .int v3)]) (st' := [.int 1]) rfl ?_
    have e := Option.some.inj e; subst e; exact wp_iret (ty := .boolean) rfl rfl (by decide) c
noncomputable def k_Acts_pressOn_129 (v0 : Nat) (w0 : Int32) (g : g_S) : Option (Int32 × g_S) :=
  if w0 = (-1) then
    k_Acts_pressOn_140 w0 g
  else
    (vc g 100 v0 (M_Acts_send v0 w0 g)).bind fun g1 =>
    k_Acts_pressOn_140 w0 g1
set_option maxRecDepth 20000 in
theorem x_Acts_pressOn_129 {L : Nat} {xs : Nat → Int32} {Q : Option Value → ab_H → Prop} {v0 : Nat} {w0 : Int32} {g : g_S} {out : Int32 × g_S} (e : k_Acts_pressOn_129 v0 w0 g = some out) (c : Q (some (.int out.1)) (hp out.2)) : wp (ab_ext L xs) J_Acts_pressOn 129 [(0, .ref v0)] [.int w0] (hp g) Q := by
  unfold k_Acts_pressOn_129 at e
  refine wp_p (j := J_Acts_pressOn) 3 (pc' := 132) (lv' := [(3, .int w0), (0, .ref v0)]) (st' := [.int (-1), .int w0]) rfl ?_
  refine x_eq e rfl (fun e => ?_) (fun e => ?_)
  · exact wp_lv (lv' := [(3, .int w0)]) rfl ⟨rfl, trivial⟩ (x_Acts_pressOn_140 e c)
  · refine wp_p (j := J_Acts_pressOn) 2 (pc' := 137) (lv' := [(3, .int w0), (0, .ref v0)]) (st' := [.int w0, .ref v0]) rfl ?_
    refine x_cv0 (As := [.int w0]) (rest := []) e rfl rfl rfl rfl rfl rfl (fun h => d_Acts_send h ⟨rfl, rfl⟩) (fun g1 e => ?_)
    exact wp_lv (lv' := [(3, .int w0)]) rfl ⟨rfl, trivial⟩ (x_Acts_pressOn_140 e c)
noncomputable def k_Acts_pressOn_87 (w0 : Int32) (w1 : Nat) (g : g_S) : Option (Int32 × g_S) :=
  (wZ g 107 w1 16 w0).bind fun g1 =>
  some (1, g1)
set_option maxRecDepth 20000 in
theorem x_Acts_pressOn_87 {L : Nat} {xs : Nat → Int32} {Q : Option Value → ab_H → Prop} {w0 : Int32} {w1 : Nat} {g : g_S} {out : Int32 × g_S} (e : k_Acts_pressOn_87 w0 w1 g = some out) (c : Q (some (.int out.1)) (hp out.2)) : wp (ab_ext L xs) J_Acts_pressOn 87 [] [.int w0, .ref w1] (hp g) Q := by
  unfold k_Acts_pressOn_87 at e
  refine x_pZ e rfl rfl fw_7_16 rfl (fun g1 e => ?_)
  refine wp_p (j := J_Acts_pressOn) 2 (pc' := 106) (lv' := []) (st' := [.int 1]) rfl ?_
  have e := Option.some.inj e; subst e; exact wp_iret (ty := .boolean) rfl rfl (by decide) c
noncomputable def k_Acts_pressOn_48 (v3 : Option Nat) (g : g_S) : Option (Int32 × g_S) :=
  oc v3
    (fun q1 =>
    some (1, g))
    (
    some (0, g))
set_option maxRecDepth 20000 in
theorem x_Acts_pressOn_48 {L : Nat} {xs : Nat → Int32} {Q : Option Value → ab_H → Prop} {v3 : Option Nat} {g : g_S} {out : Int32 × g_S} (e : k_Acts_pressOn_48 v3 g = some out) (c : Q (some (.int out.1)) (hp out.2)) : wp (ab_ext L xs) J_Acts_pressOn 48 [(3, va_rf v3)] [] (hp g) Q := by
  unfold k_Acts_pressOn_48 at e
  rcases v3 with _ | q1
  · replace e := oc_n e
    show wp (ab_ext L xs) J_Acts_pressOn 48 [(3, .null)] [] (hp g) Q
    refine wp_p (j := J_Acts_pressOn) 1 (pc' := 49) (lv' := [(3, .null)]) (st' := [.null]) rfl ?_
    refine wp_b (pc' := 56) (st' := []) rfl rfl rfl ?_
    refine wp_p (j := J_Acts_pressOn) 1 (pc' := 57) (lv' := [(3, .null)]) (st' := [.int 0]) rfl ?_
    have e := Option.some.inj e; subst e; exact wp_iret (ty := .boolean) rfl rfl (by decide) c
  · replace e := oc_s e
    show wp (ab_ext L xs) J_Acts_pressOn 48 [(3, .ref q1)] [] (hp g) Q
    refine wp_p (j := J_Acts_pressOn) 1 (pc' := 49) (lv' := [(3, .ref q1)]) (st' := [.ref q1]) rfl ?_
    refine wp_b (pc' := 52) (st' := []) rfl rfl rfl ?_
    refine wp_p (j := J_Acts_pressOn) 2 (pc' := 57) (lv' := [(3, .ref q1)]) (st' := [.int 1]) rfl ?_
    have e := Option.some.inj e; subst e; exact wp_iret (ty := .boolean) rfl rfl (by decide) c
noncomputable def M_Acts_pressOn (v0 : Nat) (v1 : Int32) (g : g_S) : Option (Int32 × g_S) :=
  (rQ g 100 v0 0).bind fun z1 =>
  (rQ g 110 z1 0).bind fun z2 =>
  (aQ g 5 z2 v1).bind fun z3 =>
  (rI g 107 z3 0).bind fun z4 =>
  if z4 = 7 then
    (vc g 107 z3 (M_Node_read z3 1000031 g)).bind fun z5 =>
    oc z5
      (fun q6 =>
      (rQ g 100 v0 1).bind fun z7 =>
      (rQ g 104 q6 1).bind fun z8 =>
      (rI g 104 q6 2).bind fun z9 =>
      c2 (vc g 106 z7 (M_Net_aim z7 z8 0 z9 g)) fun z10 g11 =>
      k_Acts_pressOn_48 (some q6) g11)
      (
      k_Acts_pressOn_48 none g)
  else
    (rI g 107 z3 0).bind fun z12 =>
    if z12 = 13 then
      (rI g 107 z3 15).bind fun z13 =>
      if z13 = 0 then
        (rQ g 100 v0 0).bind fun z14 =>
        (vc g 110 z14 (M_Tree_markOf z14 v1 g)).bind fun z15 =>
        (wL g 100 v0 6 z15).bind fun g16 =>
        some (1, g16)
      else
        (rI g 107 z3 16).bind fun z17 =>
        if z17 = 0 then
          k_Acts_pressOn_87 1 z3 g
        else
          k_Acts_pressOn_87 0 z3 g
    else
      (rI g 107 z3 0).bind fun z18 =>
      if z18 = 14 then
        (rQ g 100 v0 0).bind fun z19 =>
        (vc g 110 z19 (M_Tree_around z19 v1 5 g)).bind fun z20 =>
        k_Acts_pressOn_129 v0 z20 g
      else
        k_Acts_pressOn_129 v0 (-1) g
set_option maxRecDepth 20000 in
theorem d_Acts_pressOn {L : Nat} {xs : Nat → Int32} {Q : Option Value → ab_H → Prop} {v0 : Nat} {v1 : Int32} {g : g_S} {out : Int32 × g_S} (e : M_Acts_pressOn v0 v1 g = some out) (c : Q (some (.int out.1)) (hp out.2)) : mw (ab_ext L xs) J_Acts_pressOn [.ref v0, .int v1] (hp g) Q := by
  unfold M_Acts_pressOn at e
  refine wp_p (j := J_Acts_pressOn) 1 (pc' := 1) (lv' := [(0, .ref v0), (1, .int v1)]) (st' := [.ref v0]) rfl ?_
  refine x_gQ e rfl rfl fd_0_0 rfl (fun z1 e => ?_)
  refine x_gQ e rfl rfl fd_10_0 rfl (fun z2 e => ?_)
  refine wp_p (j := J_Acts_pressOn) 1 (pc' := 8) (lv' := [(0, .ref v0), (1, .int v1)]) (st' := [.int v1, .ref z2]) rfl ?_
  refine x_aQ e rfl rfl rfl (fun z3 e => ?_)
  refine wp_p (j := J_Acts_pressOn) 2 (pc' := 11) (lv' := [(2, .ref z3), (0, .ref v0), (1, .int v1)]) (st' := [.ref z3]) rfl ?_
  refine x_gI e rfl rfl fd_7_0 rfl (fun z4 e => ?_)
  refine wp_p (j := J_Acts_pressOn) 1 (pc' := 16) (lv' := [(2, .ref z3), (0, .ref v0), (1, .int v1)]) (st' := [.int 7, .int z4]) rfl ?_
  refine x_ne e rfl (fun e => ?_) (fun e => ?_)
  · refine wp_p (j := J_Acts_pressOn) 1 (pc' := 20) (lv' := [(2, .ref z3), (0, .ref v0), (1, .int v1)]) (st' := [.ref z3]) rfl ?_
    refine x_lsw rfl rfl ?_
    refine x_cv1 (As := [.ref 1000031]) (rest := []) va_rf e rfl rfl rfl rfl rfl rfl (fun h => d_Node_read h ⟨rfl, rfl⟩) (fun z5 e => ?_)
    rcases z5 with _ | q6
    · replace e := oc_n e
      show wp (ab_ext L xs) J_Acts_pressOn 26 [(2, .ref z3), (0, .ref v0), (1, .int v1)] [.null] (hp g) Q
      refine wp_p (j := J_Acts_pressOn) 2 (pc' := 28) (lv' := [(3, .null), (2, .ref z3), (0, .ref v0), (1, .int v1)]) (st' := [.null]) rfl ?_
      refine wp_b (pc' := 48) (st' := []) rfl rfl rfl ?_
      exact wp_lv (lv' := [(3, va_rf none)]) rfl ⟨rfl, trivial⟩ (x_Acts_pressOn_48 e c)
    · replace e := oc_s e
      show wp (ab_ext L xs) J_Acts_pressOn 26 [(2, .ref z3), (0, .ref v0), (1, .int v1)] [.ref q6] (hp g) Q
      refine wp_p (j := J_Acts_pressOn) 2 (pc' := 28) (lv' := [(3, .ref q6), (2, .ref z3), (0, .ref v0), (1, .int v1)]) (st' := [.ref q6]) rfl ?_
      refine wp_b (pc' := 31) (st' := []) rfl rfl rfl ?_
      refine wp_p (j := J_Acts_pressOn) 1 (pc' := 32) (lv' := [(3, .ref q6), (2, .ref z3), (0, .ref v0), (1, .int v1)]) (st' := [.ref v0]) rfl ?_
      refine x_gQ e rfl rfl fd_0_1 rfl (fun z7 e => ?_)
      refine wp_p (j := J_Acts_pressOn) 1 (pc' := 36) (lv' := [(3, .ref q6), (2, .ref z3), (0, .ref v0), (1, .int v1)]) (st' := [.ref q6, .ref z7]) rfl ?_
      refine x_gQ e rfl rfl fd_4_1 rfl (fun z8 e => ?_)
      refine wp_p (j := J_Acts_pressOn) 2 (pc' := 41) (lv' := [(3, .ref q6), (2, .ref z3), (0, .ref v0), (1, .int v1)]) (st' := [.ref q6, .int 0, .ref z8, .ref z7]) rfl ?_
      refine x_gI e rfl rfl fd_4_2 rfl (fun z9 e => ?_)
      refine x_cv2 (As := [.ref z8, .int 0, .int z9]) (rest := []) Value.int e rfl rfl rfl rfl rfl rfl (fun h => d_Net_aim h ⟨rfl, rfl⟩) (fun z10 g11 e => ?_)
      refine wp_p (j := J_Acts_pressOn) 1 (pc' := 48) (lv' := [(3, .ref q6), (2, .ref z3), (0, .ref v0), (1, .int v1)]) (st' := []) rfl ?_
      exact wp_lv (lv' := [(3, va_rf (some q6))]) rfl ⟨rfl, trivial⟩ (x_Acts_pressOn_48 e c)
  · refine wp_p (j := J_Acts_pressOn) 1 (pc' := 59) (lv' := [(2, .ref z3), (0, .ref v0), (1, .int v1)]) (st' := [.ref z3]) rfl ?_
    refine x_gI e rfl rfl fd_7_0 rfl (fun z12 e => ?_)
    refine wp_p (j := J_Acts_pressOn) 1 (pc' := 64) (lv' := [(2, .ref z3), (0, .ref v0), (1, .int v1)]) (st' := [.int 13, .int z12]) rfl ?_
    refine x_ne e rfl (fun e => ?_) (fun e => ?_)
    · refine wp_p (j := J_Acts_pressOn) 1 (pc' := 68) (lv' := [(2, .ref z3), (0, .ref v0), (1, .int v1)]) (st' := [.ref z3]) rfl ?_
      refine x_gI e rfl rfl fd_7_15 rfl (fun z13 e => ?_)
      refine z_eq e rfl (fun e => ?_) (fun e => ?_)
      · refine wp_p (j := J_Acts_pressOn) 2 (pc' := 95) (lv' := [(2, .ref z3), (0, .ref v0), (1, .int v1)]) (st' := [.ref v0, .ref v0]) rfl ?_
        refine x_gQ e rfl rfl fd_0_0 rfl (fun z14 e => ?_)
        refine wp_p (j := J_Acts_pressOn) 1 (pc' := 99) (lv' := [(2, .ref z3), (0, .ref v0), (1, .int v1)]) (st' := [.int v1, .ref z14, .ref v0]) rfl ?_
        refine x_cv1 (As := [.int v1]) (rest := [.ref v0]) Value.long e rfl rfl rfl rfl rfl rfl (fun h => d_Tree_markOf h ⟨rfl, rfl⟩) (fun z15 e => ?_)
        refine x_pL e rfl rfl fw_0_6 rfl (fun g16 e => ?_)
        refine wp_p (j := J_Acts_pressOn) 1 (pc' := 106) (lv' := [(2, .ref z3), (0, .ref v0), (1, .int v1)]) (st' := [.int 1]) rfl ?_
        have e := Option.some.inj e; subst e; exact wp_iret (ty := .boolean) rfl rfl (by decide) c
      · refine wp_p (j := J_Acts_pressOn) 2 (pc' := 76) (lv' := [(2, .ref z3), (0, .ref v0), (1, .int v1)]) (st' := [.ref z3, .ref z3]) rfl ?_
        refine x_gI e rfl rfl fd_7_16 rfl (fun z17 e => ?_)
        refine z_ne e rfl (fun e => ?_) (fun e => ?_)
        · refine wp_p (j := J_Acts_pressOn) 2 (pc' := 87) (lv' := [(2, .ref z3), (0, .ref v0), (1, .int v1)]) (st' := [.int 1, .ref z3]) rfl ?_
          exact wp_lv (lv' := []) rfl trivial (x_Acts_pressOn_87 e c)
        · refine wp_p (j := J_Acts_pressOn) 1 (pc' := 87) (lv' := [(2, .ref z3), (0, .ref v0), (1, .int v1)]) (st' := [.int 0, .ref z3]) rfl ?_
          exact wp_lv (lv' := []) rfl trivial (x_Acts_pressOn_87 e c)
    · refine wp_p (j := J_Acts_pressOn) 1 (pc' := 108) (lv' := [(2, .ref z3), (0, .ref v0), (1, .int v1)]) (st' := [.ref z3]) rfl ?_
      refine x_gI e rfl rfl fd_7_0 rfl (fun z18 e => ?_)
      refine wp_p (j := J_Acts_pressOn) 1 (pc' := 113) (lv' := [(2, .ref z3), (0, .ref v0), (1, .int v1)]) (st' := [.int 14, .int z18]) rfl ?_
      refine x_ne e rfl (fun e => ?_) (fun e => ?_)
      · refine wp_p (j := J_Acts_pressOn) 1 (pc' := 117) (lv' := [(2, .ref z3), (0, .ref v0), (1, .int v1)]) (st' := [.ref v0]) rfl ?_
        refine x_gQ e rfl rfl fd_0_0 rfl (fun z19 e => ?_)
        refine wp_p (j := J_Acts_pressOn) 2 (pc' := 122) (lv' := [(2, .ref z3), (0, .ref v0), (1, .int v1)]) (st' := [.int 5, .int v1, .ref z19]) rfl ?_
        refine x_cv1 (As := [.int v1, .int 5]) (rest := []) Value.int e rfl rfl rfl rfl rfl rfl (fun h => d_Tree_around h ⟨rfl, rfl⟩) (fun z20 e => ?_)
        refine wp_p (j := J_Acts_pressOn) 1 (pc' := 129) (lv' := [(2, .ref z3), (0, .ref v0), (1, .int v1)]) (st' := [.int z20]) rfl ?_
        exact wp_lv (lv' := [(0, .ref v0)]) rfl ⟨rfl, trivial⟩ (x_Acts_pressOn_129 e c)
      · refine wp_p (j := J_Acts_pressOn) 1 (pc' := 129) (lv' := [(2, .ref z3), (0, .ref v0), (1, .int v1)]) (st' := [.int (-1)]) rfl ?_
        exact wp_lv (lv' := [(0, .ref v0)]) rfl ⟨rfl, trivial⟩ (x_Acts_pressOn_129 e c)
def cL_Acts_doDefault_32 (L : Nat) (xs : Nat → Int32) (Q : Option Value → ab_H → Prop) (v0 : Nat) (out : (Int32 × Int32 × g_S) ⊕ (g_S)) : Prop := match out with
  | .inl s => wp (ab_ext L xs) J_Acts_doDefault 32 [(0, .ref v0), (2, .int s.1), (3, .int s.2.1)] [] (hp s.2.2) Q
  | .inr s => wp (ab_ext L xs) J_Acts_doDefault 86 [] [] (hp s) Q
noncomputable def b_Acts_doDefault_32 (v0 : Nat) (v2 : Int32) (v3 : Int32) (g : g_S) : Option ((Int32 × Int32 × g_S) ⊕ (g_S)) :=
  (rI g 100 v0 16).bind fun z1 =>
  if v3 < z1 then
    if v2 = 0 then
      (rQ g 100 v0 0).bind fun z2 =>
      (rQ g 100 v0 14).bind fun z3 =>
      (aL g z3 v3).bind fun z4 =>
      (vc g 110 z2 (M_Tree_alive z2 z4 g)).bind fun z5 =>
      if z5 = (-1) then
        some (.inl (0, v3 + 1, g))
      else
        c2 (vc g 100 v0 (M_Acts_pressOn v0 z5 g)) fun z6 g7 =>
        if z6 = 0 then
          some (.inl (0, v3 + 1, g7))
        else
          some (.inl (1, v3 + 1, g7))
    else
      some (.inr g)
  else
    some (.inr g)
set_option maxRecDepth 20000 in
theorem y_Acts_doDefault_32 {L : Nat} {xs : Nat → Int32} {Q : Option Value → ab_H → Prop} {v0 : Nat} {v2 : Int32} {v3 : Int32} {g : g_S} {out : (Int32 × Int32 × g_S) ⊕ (g_S)} (e : b_Acts_doDefault_32 v0 v2 v3 g = some out) (c : cL_Acts_doDefault_32 L xs Q v0 out) : wp (ab_ext L xs) J_Acts_doDefault 32 [(0, .ref v0), (2, .int v2), (3, .int v3)] [] (hp g) Q := by
  unfold b_Acts_doDefault_32 at e
  refine wp_p (j := J_Acts_doDefault) 2 (pc' := 34) (lv' := [(0, .ref v0), (2, .int v2), (3, .int v3)]) (st' := [.ref v0, .int v3]) rfl ?_
  refine x_gI e rfl rfl fd_0_16 rfl (fun z1 e => ?_)
  refine x_ge e rfl (fun e => ?_) (fun e => ?_)
  · refine wp_p (j := J_Acts_doDefault) 1 (pc' := 41) (lv' := [(0, .ref v0), (2, .int v2), (3, .int v3)]) (st' := [.int v2]) rfl ?_
    refine z_ne e rfl (fun e => ?_) (fun e => ?_)
    · refine wp_p (j := J_Acts_doDefault) 1 (pc' := 45) (lv' := [(0, .ref v0), (2, .int v2), (3, .int v3)]) (st' := [.ref v0]) rfl ?_
      refine x_gQ e rfl rfl fd_0_0 rfl (fun z2 e => ?_)
      refine wp_p (j := J_Acts_doDefault) 1 (pc' := 49) (lv' := [(0, .ref v0), (2, .int v2), (3, .int v3)]) (st' := [.ref v0, .ref z2]) rfl ?_
      refine x_gQ e rfl rfl fd_0_14 rfl (fun z3 e => ?_)
      refine wp_p (j := J_Acts_doDefault) 1 (pc' := 53) (lv' := [(0, .ref v0), (2, .int v2), (3, .int v3)]) (st' := [.int v3, .ref z3, .ref z2]) rfl ?_
      refine x_aL e rfl rfl (fun z4 e => ?_)
      refine x_cv1 (As := [.long z4]) (rest := []) Value.int e rfl rfl rfl rfl rfl rfl (fun h => d_Tree_alive h ⟨rfl, rfl⟩) (fun z5 e => ?_)
      refine wp_p (j := J_Acts_doDefault) 3 (pc' := 62) (lv' := [(4, .int z5), (0, .ref v0), (2, .int v2), (3, .int v3)]) (st' := [.int (-1), .int z5]) rfl ?_
      refine x_eq e rfl (fun e => ?_) (fun e => ?_)
      · refine wp_p (j := J_Acts_doDefault) 4 (pc' := 32) (lv' := [(3, .int (v3 + 1)), (2, .int 0), (4, .int z5), (0, .ref v0)]) (st' := []) rfl ?_
        have e := Option.some.inj e; subst e; exact wp_lv (lv' := [(0, .ref v0), (2, .int 0), (3, .int (v3 + 1))]) rfl ⟨rfl, rfl, rfl, trivial⟩ c
      · refine wp_p (j := J_Acts_doDefault) 2 (pc' := 68) (lv' := [(4, .int z5), (0, .ref v0), (2, .int v2), (3, .int v3)]) (st' := [.int z5, .ref v0]) rfl ?_
        refine x_cv2 (As := [.int z5]) (rest := []) Value.int e rfl rfl rfl rfl rfl rfl (fun h => d_Acts_pressOn h ⟨rfl, rfl⟩) (fun z6 g7 e => ?_)
        refine z_eq e rfl (fun e => ?_) (fun e => ?_)
        · refine wp_p (j := J_Acts_doDefault) 4 (pc' := 32) (lv' := [(3, .int (v3 + 1)), (2, .int 0), (4, .int z5), (0, .ref v0)]) (st' := []) rfl ?_
          have e := Option.some.inj e; subst e; exact wp_lv (lv' := [(0, .ref v0), (2, .int 0), (3, .int (v3 + 1))]) rfl ⟨rfl, rfl, rfl, trivial⟩ c
        · refine wp_p (j := J_Acts_doDefault) 5 (pc' := 32) (lv' := [(3, .int (v3 + 1)), (2, .int 1), (4, .int z5), (0, .ref v0)]) (st' := []) rfl ?_
          have e := Option.some.inj e; subst e; exact wp_lv (lv' := [(0, .ref v0), (2, .int 1), (3, .int (v3 + 1))]) rfl ⟨rfl, rfl, rfl, trivial⟩ c
    · have e := Option.some.inj e; subst e; exact wp_lv (lv' := []) rfl trivial c
  · have e := Option.some.inj e; subst e; exact wp_lv (lv' := []) rfl trivial c
noncomputable def L_Acts_doDefault_32 (v0 : Nat) (v2 : Int32) (v3 : Int32) (g : g_S) : Option (g_S) := it (fun s : Int32 × Int32 × g_S => b_Acts_doDefault_32 v0 s.1 s.2.1 s.2.2) (v2, v3, g)
theorem l_Acts_doDefault_32 {L : Nat} {xs : Nat → Int32} {Q : Option Value → ab_H → Prop} {v0 : Nat} {v2 : Int32} {v3 : Int32} {g : g_S} {r : g_S} (e : L_Acts_doDefault_32 v0 v2 v3 g = some r) (c : cL_Acts_doDefault_32 L xs Q v0 (.inr r)) : wp (ab_ext L xs) J_Acts_doDefault 32 [(0, .ref v0), (2, .int v2), (3, .int v3)] [] (hp g) Q :=
  it_wp (P := fun s : Int32 × Int32 × g_S => wp (ab_ext L xs) J_Acts_doDefault 32 [(0, .ref v0), (2, .int s.1), (3, .int s.2.1)] [] (hp s.2.2) Q) (E := fun r => cL_Acts_doDefault_32 L xs Q v0 (.inr r)) (fun s out e c => y_Acts_doDefault_32 e (by cases out <;> exact c)) e c
theorem L_Acts_doDefault_32_eq (v0 : Nat) (v2 : Int32) (v3 : Int32) (g : g_S) : L_Acts_doDefault_32 v0 v2 v3 g = itc (b_Acts_doDefault_32 v0 v2 v3 g) (fun s => L_Acts_doDefault_32 v0 s.1 s.2.1 s.2.2) := it_eq2 (fun s : Int32 × Int32 × g_S => b_Acts_doDefault_32 v0 s.1 s.2.1 s.2.2) (v2, v3, g)
noncomputable def M_Acts_doDefault (v0 : Nat) (g : g_S) : Option g_S :=
  (rI g 100 v0 18).bind fun z1 =>
  (wI g 100 v0 18 0).bind fun g2 =>
  if z1 = (-1) then
    (wL g2 100 v0 6 (-1)).bind fun g3 =>
    (L_Acts_doDefault_32 v0 0 0 g3).bind <| fun g6 =>
    some g6
  else
    (vc g2 100 v0 (M_Acts_typeKey v0 z1 g2)).bind fun g7 =>
    some g7
set_option maxRecDepth 20000 in
theorem d_Acts_doDefault {L : Nat} {xs : Nat → Int32} {Q : Option Value → ab_H → Prop} {v0 : Nat} {g : g_S} {out : g_S} (e : M_Acts_doDefault v0 g = some out) (c : Q none (hp out)) : mw (ab_ext L xs) J_Acts_doDefault [.ref v0] (hp g) Q := by
  unfold M_Acts_doDefault at e
  refine wp_p (j := J_Acts_doDefault) 1 (pc' := 1) (lv' := [(0, .ref v0)]) (st' := [.ref v0]) rfl ?_
  refine x_gI e rfl rfl fd_0_18 rfl (fun z1 e => ?_)
  refine wp_p (j := J_Acts_doDefault) 3 (pc' := 7) (lv' := [(1, .int z1), (0, .ref v0)]) (st' := [.int 0, .ref v0]) rfl ?_
  refine x_pI e rfl rfl fw_0_18 rfl (fun g2 e => ?_)
  refine wp_p (j := J_Acts_doDefault) 2 (pc' := 12) (lv' := [(1, .int z1), (0, .ref v0)]) (st' := [.int (-1), .int z1]) rfl ?_
  refine x_eq e rfl (fun e => ?_) (fun e => ?_)
  · refine wp_p (j := J_Acts_doDefault) 1 (pc' := 22) (lv' := [(1, .int z1), (0, .ref v0)]) (st' := [.ref v0]) rfl ?_
    refine x_l2 (xl := (-1)) rfl rfl rfl ?_
    refine x_pL e rfl rfl fw_0_6 rfl (fun g3 e => ?_)
    refine wp_p (j := J_Acts_doDefault) 4 (pc' := 32) (lv' := [(3, .int 0), (2, .int 0), (1, .int z1), (0, .ref v0)]) (st' := []) rfl ?_
    obtain ⟨g6, h5, e⟩ := bd e
    refine wp_lv (lv' := [(0, .ref v0), (2, .int 0), (3, .int 0)]) rfl ⟨rfl, rfl, rfl, trivial⟩ ?_
    refine l_Acts_doDefault_32 h5 ?_
    show wp (ab_ext L xs) J_Acts_doDefault 86 [] [] (hp g6) Q
    have e := Option.some.inj e; subst e; exact wp_vret rfl rfl c
  · refine wp_p (j := J_Acts_doDefault) 2 (pc' := 17) (lv' := [(1, .int z1), (0, .ref v0)]) (st' := [.int z1, .ref v0]) rfl ?_
    refine x_cv0 (As := [.int z1]) (rest := []) e rfl rfl rfl rfl rfl rfl (fun h => d_Acts_typeKey h ⟨rfl, rfl⟩) (fun g7 e => ?_)
    have e := Option.some.inj e; subst e; exact wp_vret rfl rfl c
def cL_Acts_settle_2 (L : Nat) (xs : Nat → Int32) (Q : Option Value → ab_H → Prop) (v0 : Nat) (out : (Int32 × g_S) ⊕ ((g_S) ⊕ (g_S) ⊕ (g_S))) : Prop := match out with
  | .inl s => wp (ab_ext L xs) J_Acts_settle 2 [(0, .ref v0), (1, .int s.1)] [] (hp s.2) Q
  | .inr (.inl s) => wp (ab_ext L xs) J_Acts_settle 71 [] [] (hp s) Q
  | .inr (.inr (.inl s)) => wp (ab_ext L xs) J_Acts_settle 125 [] [] (hp s) Q
  | .inr (.inr (.inr s)) => wp (ab_ext L xs) J_Acts_settle 132 [] [] (hp s) Q
noncomputable def b_Acts_settle_2 (v0 : Nat) (v1 : Int32) (g : g_S) : Option ((Int32 × g_S) ⊕ ((g_S) ⊕ (g_S) ⊕ (g_S))) :=
  if v1 < 1000000 then
    (rQ g 100 v0 1).bind fun z1 =>
    (rI g 106 z1 16).bind fun z2 =>
    if z2 = 0 then
      (rI g 100 v0 17).bind fun z3 =>
      if z3 = (-1) then
        (rI g 100 v0 9).bind fun z4 =>
        if z4 = 0 then
          some (.inr (.inl g))
        else
          (rI g 100 v0 12).bind fun z5 =>
          (rQ g 100 v0 11).bind fun z6 =>
          (rI g 104 z6 2).bind fun z7 =>
          if z5 < z7 then
            (vc g 100 v0 (M_Acts_runNext v0 g)).bind fun g8 =>
            some (.inl (v1 + 1, g8))
          else
            (rI g 100 v0 15).bind fun z9 =>
            (rI g 100 v0 16).bind fun z10 =>
            if z9 < z10 then
              (vc g 100 v0 (M_Acts_listenNext v0 g)).bind fun g11 =>
              some (.inl (v1 + 1, g11))
            else
              (rI g 100 v0 18).bind fun z12 =>
              if z12 = 0 then
                some (.inr (.inr (.inl g)))
              else
                (vc g 100 v0 (M_Acts_doDefault v0 g)).bind fun g13 =>
                some (.inl (v1 + 1, g13))
      else
        (vc g 100 v0 (M_Acts_finishGet v0 g)).bind fun g14 =>
        some (.inl (v1 + 1, g14))
    else
      (rQ g 100 v0 1).bind fun z15 =>
      c2 (vc g 106 z15 (M_Net_arrive z15 g)) fun z16 g17 =>
      (rQ g17 100 v0 2).bind fun z18 =>
      (rQ g17 102 z16 6).bind fun z19 =>
      (rQ g17 102 z16 6).bind fun z20 =>
      (aN g17 z20).bind fun z21 =>
      (vc g17 108 z18 (M_Reader_read z18 z19 z21 g17)).bind fun g22 =>
      (vc g22 100 v0 (M_Acts_startPage v0 g22)).bind fun g23 =>
      some (.inl (v1 + 1, g23))
  else
    some (.inr (.inr (.inr g)))
set_option maxRecDepth 20000 in
theorem y_Acts_settle_2 {L : Nat} {xs : Nat → Int32} {Q : Option Value → ab_H → Prop} {v0 : Nat} {v1 : Int32} {g : g_S} {out : (Int32 × g_S) ⊕ ((g_S) ⊕ (g_S) ⊕ (g_S))} (e : b_Acts_settle_2 v0 v1 g = some out) (c : cL_Acts_settle_2 L xs Q v0 out) : wp (ab_ext L xs) J_Acts_settle 2 [(0, .ref v0), (1, .int v1)] [] (hp g) Q := by
  unfold b_Acts_settle_2 at e
  refine wp_p (j := J_Acts_settle) 1 (pc' := 3) (lv' := [(0, .ref v0), (1, .int v1)]) (st' := [.int v1]) rfl ?_
  refine x_ld (x := 1000000) rfl rfl rfl ?_
  refine x_ge e rfl (fun e => ?_) (fun e => ?_)
  · refine wp_p (j := J_Acts_settle) 1 (pc' := 9) (lv' := [(0, .ref v0), (1, .int v1)]) (st' := [.ref v0]) rfl ?_
    refine x_gQ e rfl rfl fd_0_1 rfl (fun z1 e => ?_)
    refine x_gI e rfl rfl fd_6_16 rfl (fun z2 e => ?_)
    refine z_eq e rfl (fun e => ?_) (fun e => ?_)
    · refine wp_p (j := J_Acts_settle) 1 (pc' := 50) (lv' := [(0, .ref v0), (1, .int v1)]) (st' := [.ref v0]) rfl ?_
      refine x_gI e rfl rfl fd_0_17 rfl (fun z3 e => ?_)
      refine wp_p (j := J_Acts_settle) 1 (pc' := 54) (lv' := [(0, .ref v0), (1, .int v1)]) (st' := [.int (-1), .int z3]) rfl ?_
      refine x_eq e rfl (fun e => ?_) (fun e => ?_)
      · refine wp_p (j := J_Acts_settle) 1 (pc' := 65) (lv' := [(0, .ref v0), (1, .int v1)]) (st' := [.ref v0]) rfl ?_
        refine x_gI e rfl rfl fd_0_9 rfl (fun z4 e => ?_)
        refine z_ne e rfl (fun e => ?_) (fun e => ?_)
        · have e := Option.some.inj e; subst e; exact wp_lv (lv' := []) rfl trivial c
        · refine wp_p (j := J_Acts_settle) 1 (pc' := 73) (lv' := [(0, .ref v0), (1, .int v1)]) (st' := [.ref v0]) rfl ?_
          refine x_gI e rfl rfl fd_0_12 rfl (fun z5 e => ?_)
          refine wp_p (j := J_Acts_settle) 1 (pc' := 77) (lv' := [(0, .ref v0), (1, .int v1)]) (st' := [.ref v0, .int z5]) rfl ?_
          refine x_gQ e rfl rfl fd_0_11 rfl (fun z6 e => ?_)
          refine x_gI e rfl rfl fd_4_2 rfl (fun z7 e => ?_)
          refine x_ge e rfl (fun e => ?_) (fun e => ?_)
          · refine wp_p (j := J_Acts_settle) 1 (pc' := 87) (lv' := [(0, .ref v0), (1, .int v1)]) (st' := [.ref v0]) rfl ?_
            refine x_cv0 (As := []) (rest := []) e rfl rfl rfl rfl rfl rfl (fun h => d_Acts_runNext h ⟨rfl, rfl⟩) (fun g8 e => ?_)
            refine wp_p (j := J_Acts_settle) 3 (pc' := 2) (lv' := [(1, .int (v1 + 1)), (0, .ref v0)]) (st' := []) rfl ?_
            have e := Option.some.inj e; subst e; exact wp_lv (lv' := [(0, .ref v0), (1, .int (v1 + 1))]) rfl ⟨rfl, rfl, trivial⟩ c
          · refine wp_p (j := J_Acts_settle) 1 (pc' := 94) (lv' := [(0, .ref v0), (1, .int v1)]) (st' := [.ref v0]) rfl ?_
            refine x_gI e rfl rfl fd_0_15 rfl (fun z9 e => ?_)
            refine wp_p (j := J_Acts_settle) 1 (pc' := 98) (lv' := [(0, .ref v0), (1, .int v1)]) (st' := [.ref v0, .int z9]) rfl ?_
            refine x_gI e rfl rfl fd_0_16 rfl (fun z10 e => ?_)
            refine x_ge e rfl (fun e => ?_) (fun e => ?_)
            · refine wp_p (j := J_Acts_settle) 1 (pc' := 105) (lv' := [(0, .ref v0), (1, .int v1)]) (st' := [.ref v0]) rfl ?_
              refine x_cv0 (As := []) (rest := []) e rfl rfl rfl rfl rfl rfl (fun h => d_Acts_listenNext h ⟨rfl, rfl⟩) (fun g11 e => ?_)
              refine wp_p (j := J_Acts_settle) 3 (pc' := 2) (lv' := [(1, .int (v1 + 1)), (0, .ref v0)]) (st' := []) rfl ?_
              have e := Option.some.inj e; subst e; exact wp_lv (lv' := [(0, .ref v0), (1, .int (v1 + 1))]) rfl ⟨rfl, rfl, trivial⟩ c
            · refine wp_p (j := J_Acts_settle) 1 (pc' := 112) (lv' := [(0, .ref v0), (1, .int v1)]) (st' := [.ref v0]) rfl ?_
              refine x_gI e rfl rfl fd_0_18 rfl (fun z12 e => ?_)
              refine z_eq e rfl (fun e => ?_) (fun e => ?_)
              · have e := Option.some.inj e; subst e; exact wp_lv (lv' := []) rfl trivial c
              · refine wp_p (j := J_Acts_settle) 1 (pc' := 119) (lv' := [(0, .ref v0), (1, .int v1)]) (st' := [.ref v0]) rfl ?_
                refine x_cv0 (As := []) (rest := []) e rfl rfl rfl rfl rfl rfl (fun h => d_Acts_doDefault h ⟨rfl, rfl⟩) (fun g13 e => ?_)
                refine wp_p (j := J_Acts_settle) 3 (pc' := 2) (lv' := [(1, .int (v1 + 1)), (0, .ref v0)]) (st' := []) rfl ?_
                have e := Option.some.inj e; subst e; exact wp_lv (lv' := [(0, .ref v0), (1, .int (v1 + 1))]) rfl ⟨rfl, rfl, trivial⟩ c
      · refine wp_p (j := J_Acts_settle) 1 (pc' := 58) (lv' := [(0, .ref v0), (1, .int v1)]) (st' := [.ref v0]) rfl ?_
        refine x_cv0 (As := []) (rest := []) e rfl rfl rfl rfl rfl rfl (fun h => d_Acts_finishGet h ⟨rfl, rfl⟩) (fun g14 e => ?_)
        refine wp_p (j := J_Acts_settle) 3 (pc' := 2) (lv' := [(1, .int (v1 + 1)), (0, .ref v0)]) (st' := []) rfl ?_
        have e := Option.some.inj e; subst e; exact wp_lv (lv' := [(0, .ref v0), (1, .int (v1 + 1))]) rfl ⟨rfl, rfl, trivial⟩ c
    · refine wp_p (j := J_Acts_settle) 1 (pc' := 19) (lv' := [(0, .ref v0), (1, .int v1)]) (st' := [.ref v0]) rfl ?_
      refine x_gQ e rfl rfl fd_0_1 rfl (fun z15 e => ?_)
      refine x_cv2 (As := []) (rest := []) Value.ref e rfl rfl rfl rfl rfl rfl (fun h => d_Net_arrive h ⟨rfl, rfl⟩) (fun z16 g17 e => ?_)
      refine wp_p (j := J_Acts_settle) 2 (pc' := 27) (lv' := [(2, .ref z16), (0, .ref v0), (1, .int v1)]) (st' := [.ref v0]) rfl ?_
      refine x_gQ e rfl rfl fd_0_2 rfl (fun z18 e => ?_)
      refine wp_p (j := J_Acts_settle) 1 (pc' := 31) (lv' := [(2, .ref z16), (0, .ref v0), (1, .int v1)]) (st' := [.ref z16, .ref z18]) rfl ?_
      refine x_gQ e rfl rfl fd_2_6 rfl (fun z19 e => ?_)
      refine wp_p (j := J_Acts_settle) 1 (pc' := 35) (lv' := [(2, .ref z16), (0, .ref v0), (1, .int v1)]) (st' := [.ref z16, .ref z19, .ref z18]) rfl ?_
      refine x_gQ e rfl rfl fd_2_6 rfl (fun z20 e => ?_)
      refine x_aN e rfl rfl (fun z21 e => ?_)
      refine x_cv0 (As := [.ref z19, .int z21]) (rest := []) e rfl rfl rfl rfl rfl rfl (fun h => d_Reader_read h ⟨rfl, rfl⟩) (fun g22 e => ?_)
      refine wp_p (j := J_Acts_settle) 1 (pc' := 43) (lv' := [(2, .ref z16), (0, .ref v0), (1, .int v1)]) (st' := [.ref v0]) rfl ?_
      refine x_cv0 (As := []) (rest := []) e rfl rfl rfl rfl rfl rfl (fun h => d_Acts_startPage h ⟨rfl, rfl⟩) (fun g23 e => ?_)
      refine wp_p (j := J_Acts_settle) 3 (pc' := 2) (lv' := [(1, .int (v1 + 1)), (2, .ref z16), (0, .ref v0)]) (st' := []) rfl ?_
      have e := Option.some.inj e; subst e; exact wp_lv (lv' := [(0, .ref v0), (1, .int (v1 + 1))]) rfl ⟨rfl, rfl, trivial⟩ c
  · have e := Option.some.inj e; subst e; exact wp_lv (lv' := []) rfl trivial c
noncomputable def L_Acts_settle_2 (v0 : Nat) (v1 : Int32) (g : g_S) : Option ((g_S) ⊕ (g_S) ⊕ (g_S)) := it (fun s : Int32 × g_S => b_Acts_settle_2 v0 s.1 s.2) (v1, g)
theorem l_Acts_settle_2 {L : Nat} {xs : Nat → Int32} {Q : Option Value → ab_H → Prop} {v0 : Nat} {v1 : Int32} {g : g_S} {r : (g_S) ⊕ (g_S) ⊕ (g_S)} (e : L_Acts_settle_2 v0 v1 g = some r) (c : cL_Acts_settle_2 L xs Q v0 (.inr r)) : wp (ab_ext L xs) J_Acts_settle 2 [(0, .ref v0), (1, .int v1)] [] (hp g) Q :=
  it_wp (P := fun s : Int32 × g_S => wp (ab_ext L xs) J_Acts_settle 2 [(0, .ref v0), (1, .int s.1)] [] (hp s.2) Q) (E := fun r => cL_Acts_settle_2 L xs Q v0 (.inr r)) (fun s out e c => y_Acts_settle_2 e (by cases out <;> exact c)) e c
theorem L_Acts_settle_2_eq (v0 : Nat) (v1 : Int32) (g : g_S) : L_Acts_settle_2 v0 v1 g = itc (b_Acts_settle_2 v0 v1 g) (fun s => L_Acts_settle_2 v0 s.1 s.2) := it_eq2 (fun s : Int32 × g_S => b_Acts_settle_2 v0 s.1 s.2) (v1, g)
noncomputable def M_Acts_settle (v0 : Nat) (g : g_S) : Option g_S :=
  (L_Acts_settle_2 v0 0 g).bind <|
    us (fun g3 =>
    some g3)
    (us (fun g4 =>
    some g4)
    (fun g5 =>
    some g5))
set_option maxRecDepth 20000 in
theorem d_Acts_settle {L : Nat} {xs : Nat → Int32} {Q : Option Value → ab_H → Prop} {v0 : Nat} {g : g_S} {out : g_S} (e : M_Acts_settle v0 g = some out) (c : Q none (hp out)) : mw (ab_ext L xs) J_Acts_settle [.ref v0] (hp g) Q := by
  unfold M_Acts_settle at e
  refine wp_p (j := J_Acts_settle) 2 (pc' := 2) (lv' := [(1, .int 0), (0, .ref v0)]) (st' := []) rfl ?_
  obtain ⟨s1, h2, e⟩ := bd e
  refine wp_lv (lv' := [(0, .ref v0), (1, .int 0)]) rfl ⟨rfl, rfl, trivial⟩ ?_
  refine l_Acts_settle_2 h2 ?_
  rcases s1 with g3 | g4 | g5
  · replace e := (us_l e)
    show wp (ab_ext L xs) J_Acts_settle 71 [] [] (hp g3) Q
    have e := Option.some.inj e; subst e; exact wp_vret rfl rfl c
  · replace e := (us_l (us_r e))
    show wp (ab_ext L xs) J_Acts_settle 125 [] [] (hp g4) Q
    have e := Option.some.inj e; subst e; exact wp_vret rfl rfl c
  · replace e := (us_r (us_r e))
    show wp (ab_ext L xs) J_Acts_settle 132 [] [] (hp g5) Q
    have e := Option.some.inj e; subst e; exact wp_vret rfl rfl c
noncomputable def k_H_visit_54 (v0 : Nat) (v1 : Int32) (g : g_S) : Option (Int32 × g_S) :=
  (rQ g 111 v0 0).bind fun z1 =>
  (vc g 104 z1 (M_Bytes_clear z1 g)).bind fun g2 =>
  some (v1, g2)
set_option maxRecDepth 20000 in
theorem x_H_visit_54 {L : Nat} {xs : Nat → Int32} {Q : Option Value → ab_H → Prop} {v0 : Nat} {v1 : Int32} {g : g_S} {out : Int32 × g_S} (e : k_H_visit_54 v0 v1 g = some out) (c : Q (some (.int out.1)) (hp out.2)) : wp (ab_ext L xs) J_H_visit 54 [(0, .ref v0), (1, .int v1)] [] (hp g) Q := by
  unfold k_H_visit_54 at e
  refine wp_p (j := J_H_visit) 1 (pc' := 55) (lv' := [(0, .ref v0), (1, .int v1)]) (st' := [.ref v0]) rfl ?_
  refine x_gQ e rfl rfl fd_11_0 rfl (fun z1 e => ?_)
  refine x_cv0 (As := []) (rest := []) e rfl rfl rfl rfl rfl rfl (fun h => d_Bytes_clear h ⟨rfl, rfl⟩) (fun g2 e => ?_)
  refine wp_p (j := J_H_visit) 1 (pc' := 62) (lv' := [(0, .ref v0), (1, .int v1)]) (st' := [.int v1]) rfl ?_
  have e := Option.some.inj e; subst e; exact wp_iret (ty := .int) rfl rfl rfl c
noncomputable def k_H_visit_46 (v0 : Nat) (w0 : Int32) (g : g_S) : Option (Int32 × g_S) :=
  (rQ g 111 v0 7).bind fun z1 =>
  (vc g 100 z1 (M_Acts_settle z1 g)).bind fun g2 =>
  k_H_visit_54 v0 w0 g2
set_option maxRecDepth 20000 in
theorem x_H_visit_46 {L : Nat} {xs : Nat → Int32} {Q : Option Value → ab_H → Prop} {v0 : Nat} {w0 : Int32} {g : g_S} {out : Int32 × g_S} (e : k_H_visit_46 v0 w0 g = some out) (c : Q (some (.int out.1)) (hp out.2)) : wp (ab_ext L xs) J_H_visit 46 [(0, .ref v0)] [.int w0] (hp g) Q := by
  unfold k_H_visit_46 at e
  refine wp_p (j := J_H_visit) 2 (pc' := 48) (lv' := [(1, .int w0), (0, .ref v0)]) (st' := [.ref v0]) rfl ?_
  refine x_gQ e rfl rfl fd_11_7 rfl (fun z1 e => ?_)
  refine x_cv0 (As := []) (rest := []) e rfl rfl rfl rfl rfl rfl (fun h => d_Acts_settle h ⟨rfl, rfl⟩) (fun g2 e => ?_)
  exact wp_lv (lv' := [(0, .ref v0), (1, .int w0)]) rfl ⟨rfl, rfl, trivial⟩ (x_H_visit_54 e c)
noncomputable def M_H_visit (v0 : Nat) (g : g_S) : Option (Int32 × g_S) :=
  (vc g 111 v0 (M_H_wrongByte v0 g)).bind fun z1 =>
  if z1 = 0 then
    (rQ g 111 v0 7).bind fun z2 =>
    (vc g 100 z2 (M_Acts_begin z2 g)).bind fun g3 =>
    (rQ g3 111 v0 3).bind fun z4 =>
    (rQ g3 111 v0 0).bind fun z5 =>
    (rQ g3 104 z5 1).bind fun z6 =>
    (rQ g3 111 v0 0).bind fun z7 =>
    (rI g3 104 z7 2).bind fun z8 =>
    c2 (vc g3 106 z4 (M_Net_aim z4 z6 0 z8 g3)) fun z9 g10 =>
    if z9 = 0 then
      k_H_visit_46 v0 (-1) g10
    else
      k_H_visit_46 v0 1 g10
  else
    k_H_visit_54 v0 z1 g
set_option maxRecDepth 20000 in
theorem d_H_visit {L : Nat} {xs : Nat → Int32} {Q : Option Value → ab_H → Prop} {v0 : Nat} {g : g_S} {out : Int32 × g_S} (e : M_H_visit v0 g = some out) (c : Q (some (.int out.1)) (hp out.2)) : mw (ab_ext L xs) J_H_visit [.ref v0] (hp g) Q := by
  unfold M_H_visit at e
  refine wp_p (j := J_H_visit) 1 (pc' := 1) (lv' := [(0, .ref v0)]) (st' := [.ref v0]) rfl ?_
  refine x_cv1 (As := []) (rest := []) Value.int e rfl rfl rfl rfl rfl rfl (fun h => d_H_wrongByte h ⟨rfl, rfl⟩) (fun z1 e => ?_)
  refine wp_p (j := J_H_visit) 2 (pc' := 6) (lv' := [(1, .int z1), (0, .ref v0)]) (st' := [.int z1]) rfl ?_
  refine z_ne e rfl (fun e => ?_) (fun e => ?_)
  · refine wp_p (j := J_H_visit) 1 (pc' := 10) (lv' := [(1, .int z1), (0, .ref v0)]) (st' := [.ref v0]) rfl ?_
    refine x_gQ e rfl rfl fd_11_7 rfl (fun z2 e => ?_)
    refine x_cv0 (As := []) (rest := []) e rfl rfl rfl rfl rfl rfl (fun h => d_Acts_begin h ⟨rfl, rfl⟩) (fun g3 e => ?_)
    refine wp_p (j := J_H_visit) 1 (pc' := 17) (lv' := [(1, .int z1), (0, .ref v0)]) (st' := [.ref v0]) rfl ?_
    refine x_gQ e rfl rfl fd_11_3 rfl (fun z4 e => ?_)
    refine wp_p (j := J_H_visit) 1 (pc' := 21) (lv' := [(1, .int z1), (0, .ref v0)]) (st' := [.ref v0, .ref z4]) rfl ?_
    refine x_gQ e rfl rfl fd_11_0 rfl (fun z5 e => ?_)
    refine x_gQ e rfl rfl fd_4_1 rfl (fun z6 e => ?_)
    refine wp_p (j := J_H_visit) 2 (pc' := 29) (lv' := [(1, .int z1), (0, .ref v0)]) (st' := [.ref v0, .int 0, .ref z6, .ref z4]) rfl ?_
    refine x_gQ e rfl rfl fd_11_0 rfl (fun z7 e => ?_)
    refine x_gI e rfl rfl fd_4_2 rfl (fun z8 e => ?_)
    refine x_cv2 (As := [.ref z6, .int 0, .int z8]) (rest := []) Value.int e rfl rfl rfl rfl rfl rfl (fun h => d_Net_aim h ⟨rfl, rfl⟩) (fun z9 g10 e => ?_)
    refine z_eq e rfl (fun e => ?_) (fun e => ?_)
    · refine wp_p (j := J_H_visit) 1 (pc' := 46) (lv' := [(1, .int z1), (0, .ref v0)]) (st' := [.int (-1)]) rfl ?_
      exact wp_lv (lv' := [(0, .ref v0)]) rfl ⟨rfl, trivial⟩ (x_H_visit_46 e c)
    · refine wp_p (j := J_H_visit) 2 (pc' := 46) (lv' := [(1, .int z1), (0, .ref v0)]) (st' := [.int 1]) rfl ?_
      exact wp_lv (lv' := [(0, .ref v0)]) rfl ⟨rfl, trivial⟩ (x_H_visit_46 e c)
  · exact wp_lv (lv' := [(0, .ref v0), (1, .int z1)]) rfl ⟨rfl, rfl, trivial⟩ (x_H_visit_54 e c)
noncomputable def k_H_page_59 (v0 : Nat) (v1 : Int32) (g : g_S) : Option (Int32 × g_S) :=
  (rQ g 111 v0 0).bind fun z1 =>
  (vc g 104 z1 (M_Bytes_clear z1 g)).bind fun g2 =>
  some (v1, g2)
set_option maxRecDepth 20000 in
theorem x_H_page_59 {L : Nat} {xs : Nat → Int32} {Q : Option Value → ab_H → Prop} {v0 : Nat} {v1 : Int32} {g : g_S} {out : Int32 × g_S} (e : k_H_page_59 v0 v1 g = some out) (c : Q (some (.int out.1)) (hp out.2)) : wp (ab_ext L xs) J_H_page 59 [(0, .ref v0), (1, .int v1)] [] (hp g) Q := by
  unfold k_H_page_59 at e
  refine wp_p (j := J_H_page) 1 (pc' := 60) (lv' := [(0, .ref v0), (1, .int v1)]) (st' := [.ref v0]) rfl ?_
  refine x_gQ e rfl rfl fd_11_0 rfl (fun z1 e => ?_)
  refine x_cv0 (As := []) (rest := []) e rfl rfl rfl rfl rfl rfl (fun h => d_Bytes_clear h ⟨rfl, rfl⟩) (fun g2 e => ?_)
  refine wp_p (j := J_H_page) 1 (pc' := 67) (lv' := [(0, .ref v0), (1, .int v1)]) (st' := [.int v1]) rfl ?_
  have e := Option.some.inj e; subst e; exact wp_iret (ty := .int) rfl rfl rfl c
noncomputable def M_H_page (v0 : Nat) (g : g_S) : Option (Int32 × g_S) :=
  (vc g 111 v0 (M_H_wrongByte v0 g)).bind fun z1 =>
  if z1 = 0 then
    (rQ g 111 v0 7).bind fun z2 =>
    (vc g 100 z2 (M_Acts_begin z2 g)).bind fun g3 =>
    (rQ g3 111 v0 4).bind fun z4 =>
    (rQ g3 111 v0 0).bind fun z5 =>
    (rQ g3 104 z5 1).bind fun z6 =>
    (rQ g3 111 v0 0).bind fun z7 =>
    (rI g3 104 z7 2).bind fun z8 =>
    (vc g3 108 z4 (M_Reader_read z4 z6 z8 g3)).bind fun g9 =>
    (rQ g9 111 v0 7).bind fun z10 =>
    (vc g9 100 z10 (M_Acts_startPage z10 g9)).bind fun g11 =>
    (rQ g11 111 v0 7).bind fun z12 =>
    (vc g11 100 z12 (M_Acts_settle z12 g11)).bind fun g13 =>
    (rQ g13 111 v0 2).bind fun z14 =>
    (rI g13 110 z14 5).bind fun z15 =>
    k_H_page_59 v0 z15 g13
  else
    k_H_page_59 v0 z1 g
set_option maxRecDepth 20000 in
theorem d_H_page {L : Nat} {xs : Nat → Int32} {Q : Option Value → ab_H → Prop} {v0 : Nat} {g : g_S} {out : Int32 × g_S} (e : M_H_page v0 g = some out) (c : Q (some (.int out.1)) (hp out.2)) : mw (ab_ext L xs) J_H_page [.ref v0] (hp g) Q := by
  unfold M_H_page at e
  refine wp_p (j := J_H_page) 1 (pc' := 1) (lv' := [(0, .ref v0)]) (st' := [.ref v0]) rfl ?_
  refine x_cv1 (As := []) (rest := []) Value.int e rfl rfl rfl rfl rfl rfl (fun h => d_H_wrongByte h ⟨rfl, rfl⟩) (fun z1 e => ?_)
  refine wp_p (j := J_H_page) 2 (pc' := 6) (lv' := [(1, .int z1), (0, .ref v0)]) (st' := [.int z1]) rfl ?_
  refine z_ne e rfl (fun e => ?_) (fun e => ?_)
  · refine wp_p (j := J_H_page) 1 (pc' := 10) (lv' := [(1, .int z1), (0, .ref v0)]) (st' := [.ref v0]) rfl ?_
    refine x_gQ e rfl rfl fd_11_7 rfl (fun z2 e => ?_)
    refine x_cv0 (As := []) (rest := []) e rfl rfl rfl rfl rfl rfl (fun h => d_Acts_begin h ⟨rfl, rfl⟩) (fun g3 e => ?_)
    refine wp_p (j := J_H_page) 1 (pc' := 17) (lv' := [(1, .int z1), (0, .ref v0)]) (st' := [.ref v0]) rfl ?_
    refine x_gQ e rfl rfl fd_11_4 rfl (fun z4 e => ?_)
    refine wp_p (j := J_H_page) 1 (pc' := 21) (lv' := [(1, .int z1), (0, .ref v0)]) (st' := [.ref v0, .ref z4]) rfl ?_
    refine x_gQ e rfl rfl fd_11_0 rfl (fun z5 e => ?_)
    refine x_gQ e rfl rfl fd_4_1 rfl (fun z6 e => ?_)
    refine wp_p (j := J_H_page) 1 (pc' := 28) (lv' := [(1, .int z1), (0, .ref v0)]) (st' := [.ref v0, .ref z6, .ref z4]) rfl ?_
    refine x_gQ e rfl rfl fd_11_0 rfl (fun z7 e => ?_)
    refine x_gI e rfl rfl fd_4_2 rfl (fun z8 e => ?_)
    refine x_cv0 (As := [.ref z6, .int z8]) (rest := []) e rfl rfl rfl rfl rfl rfl (fun h => d_Reader_read h ⟨rfl, rfl⟩) (fun g9 e => ?_)
    refine wp_p (j := J_H_page) 1 (pc' := 38) (lv' := [(1, .int z1), (0, .ref v0)]) (st' := [.ref v0]) rfl ?_
    refine x_gQ e rfl rfl fd_11_7 rfl (fun z10 e => ?_)
    refine x_cv0 (As := []) (rest := []) e rfl rfl rfl rfl rfl rfl (fun h => d_Acts_startPage h ⟨rfl, rfl⟩) (fun g11 e => ?_)
    refine wp_p (j := J_H_page) 1 (pc' := 45) (lv' := [(1, .int z1), (0, .ref v0)]) (st' := [.ref v0]) rfl ?_
    refine x_gQ e rfl rfl fd_11_7 rfl (fun z12 e => ?_)
    refine x_cv0 (As := []) (rest := []) e rfl rfl rfl rfl rfl rfl (fun h => d_Acts_settle h ⟨rfl, rfl⟩) (fun g13 e => ?_)
    refine wp_p (j := J_H_page) 1 (pc' := 52) (lv' := [(1, .int z1), (0, .ref v0)]) (st' := [.ref v0]) rfl ?_
    refine x_gQ e rfl rfl fd_11_2 rfl (fun z14 e => ?_)
    refine x_gI e rfl rfl fd_10_5 rfl (fun z15 e => ?_)
    refine wp_p (j := J_H_page) 1 (pc' := 59) (lv' := [(1, .int z15), (0, .ref v0)]) (st' := []) rfl ?_
    exact wp_lv (lv' := [(0, .ref v0), (1, .int z15)]) rfl ⟨rfl, rfl, trivial⟩ (x_H_page_59 e c)
  · exact wp_lv (lv' := [(0, .ref v0), (1, .int z1)]) rfl ⟨rfl, rfl, trivial⟩ (x_H_page_59 e c)
noncomputable def M_Net_move (v0 : Nat) (v1 : Int32) (g : g_S) : Option (Int32 × g_S) :=
  (rI g 106 v0 19).bind fun z1 =>
  if (lg_cmp ((Int32.toInt64 z1) + (Int32.toInt64 v1)) 0) < 0 then
    some (0, g)
  else
    (rI g 106 v0 18).bind fun z2 =>
    if (lg_cmp ((Int32.toInt64 z1) + (Int32.toInt64 v1)) (Int32.toInt64 z2)) < 0 then
      (wI g 106 v0 19 (Int64.toInt32 ((Int32.toInt64 z1) + (Int32.toInt64 v1)))).bind fun g3 =>
      (rQ g3 106 v0 14).bind fun z4 =>
      (rQ g3 106 v0 17).bind fun z5 =>
      (rI g3 106 v0 19).bind fun z6 =>
      (aQ g3 6 z5 z6).bind fun z7 =>
      (vc g3 101 z4 (M_Address_copy z4 z7 g3)).bind fun g8 =>
      (wI g8 106 v0 16 2).bind fun g9 =>
      some (1, g9)
    else
      some (0, g)
set_option maxRecDepth 20000 in
theorem d_Net_move {L : Nat} {xs : Nat → Int32} {Q : Option Value → ab_H → Prop} {v0 : Nat} {v1 : Int32} {g : g_S} {out : Int32 × g_S} (e : M_Net_move v0 v1 g = some out) (c : Q (some (.int out.1)) (hp out.2)) : mw (ab_ext L xs) J_Net_move [.ref v0, .int v1] (hp g) Q := by
  unfold M_Net_move at e
  refine wp_p (j := J_Net_move) 1 (pc' := 1) (lv' := [(0, .ref v0), (1, .int v1)]) (st' := [.ref v0]) rfl ?_
  refine x_gI e rfl rfl fd_6_19 rfl (fun z1 e => ?_)
  refine wp_p (j := J_Net_move) 8 (pc' := 12) (lv' := [(2, .long ((Int32.toInt64 z1) + (Int32.toInt64 v1))), (0, .ref v0), (1, .int v1)]) (st' := [.int (lg_cmp ((Int32.toInt64 z1) + (Int32.toInt64 v1)) 0)]) rfl ?_
  refine z_lt e rfl (fun e => ?_) (fun e => ?_)
  · refine wp_p (j := J_Net_move) 1 (pc' := 26) (lv' := [(2, .long ((Int32.toInt64 z1) + (Int32.toInt64 v1))), (0, .ref v0), (1, .int v1)]) (st' := [.int 0]) rfl ?_
    have e := Option.some.inj e; subst e; exact wp_iret (ty := .boolean) rfl rfl (by decide) c
  · refine wp_p (j := J_Net_move) 2 (pc' := 17) (lv' := [(2, .long ((Int32.toInt64 z1) + (Int32.toInt64 v1))), (0, .ref v0), (1, .int v1)]) (st' := [.ref v0, .long ((Int32.toInt64 z1) + (Int32.toInt64 v1))]) rfl ?_
    refine x_gI e rfl rfl fd_6_18 rfl (fun z2 e => ?_)
    refine wp_p (j := J_Net_move) 2 (pc' := 22) (lv' := [(2, .long ((Int32.toInt64 z1) + (Int32.toInt64 v1))), (0, .ref v0), (1, .int v1)]) (st' := [.int (lg_cmp ((Int32.toInt64 z1) + (Int32.toInt64 v1)) (Int32.toInt64 z2))]) rfl ?_
    refine z_lt e rfl (fun e => ?_) (fun e => ?_)
    · refine wp_p (j := J_Net_move) 3 (pc' := 30) (lv' := [(2, .long ((Int32.toInt64 z1) + (Int32.toInt64 v1))), (0, .ref v0), (1, .int v1)]) (st' := [.int (Int64.toInt32 ((Int32.toInt64 z1) + (Int32.toInt64 v1))), .ref v0]) rfl ?_
      refine x_pI e rfl rfl fw_6_19 rfl (fun g3 e => ?_)
      refine wp_p (j := J_Net_move) 1 (pc' := 34) (lv' := [(2, .long ((Int32.toInt64 z1) + (Int32.toInt64 v1))), (0, .ref v0), (1, .int v1)]) (st' := [.ref v0]) rfl ?_
      refine x_gQ e rfl rfl fd_6_14 rfl (fun z4 e => ?_)
      refine wp_p (j := J_Net_move) 1 (pc' := 38) (lv' := [(2, .long ((Int32.toInt64 z1) + (Int32.toInt64 v1))), (0, .ref v0), (1, .int v1)]) (st' := [.ref v0, .ref z4]) rfl ?_
      refine x_gQ e rfl rfl fd_6_17 rfl (fun z5 e => ?_)
      refine wp_p (j := J_Net_move) 1 (pc' := 42) (lv' := [(2, .long ((Int32.toInt64 z1) + (Int32.toInt64 v1))), (0, .ref v0), (1, .int v1)]) (st' := [.ref v0, .ref z5, .ref z4]) rfl ?_
      refine x_gI e rfl rfl fd_6_19 rfl (fun z6 e => ?_)
      refine x_aQ e rfl rfl rfl (fun z7 e => ?_)
      refine x_cv0 (As := [.ref z7]) (rest := []) e rfl rfl rfl rfl rfl rfl (fun h => d_Address_copy h ⟨rfl, rfl⟩) (fun g8 e => ?_)
      refine wp_p (j := J_Net_move) 2 (pc' := 51) (lv' := [(2, .long ((Int32.toInt64 z1) + (Int32.toInt64 v1))), (0, .ref v0), (1, .int v1)]) (st' := [.int 2, .ref v0]) rfl ?_
      refine x_pI e rfl rfl fw_6_16 rfl (fun g9 e => ?_)
      refine wp_p (j := J_Net_move) 1 (pc' := 55) (lv' := [(2, .long ((Int32.toInt64 z1) + (Int32.toInt64 v1))), (0, .ref v0), (1, .int v1)]) (st' := [.int 1]) rfl ?_
      have e := Option.some.inj e; subst e; exact wp_iret (ty := .boolean) rfl rfl (by decide) c
    · refine wp_p (j := J_Net_move) 1 (pc' := 26) (lv' := [(2, .long ((Int32.toInt64 z1) + (Int32.toInt64 v1))), (0, .ref v0), (1, .int v1)]) (st' := [.int 0]) rfl ?_
      have e := Option.some.inj e; subst e; exact wp_iret (ty := .boolean) rfl rfl (by decide) c
noncomputable def M_H_history (v0 : Nat) (v1 : Int32) (g : g_S) : Option (Int32 × g_S) :=
  (rQ g 111 v0 7).bind fun z1 =>
  (vc g 100 z1 (M_Acts_begin z1 g)).bind fun g2 =>
  (rQ g2 111 v0 3).bind fun z3 =>
  c2 (vc g2 106 z3 (M_Net_move z3 v1 g2)) fun z4 g5 =>
  if z4 = 0 then
    some ((-1), g5)
  else
    (rQ g5 111 v0 7).bind fun z6 =>
    (vc g5 100 z6 (M_Acts_settle z6 g5)).bind fun g7 =>
    (rQ g7 111 v0 3).bind fun z8 =>
    (rI g7 106 z8 19).bind fun z9 =>
    some (z9, g7)
set_option maxRecDepth 20000 in
theorem d_H_history {L : Nat} {xs : Nat → Int32} {Q : Option Value → ab_H → Prop} {v0 : Nat} {v1 : Int32} {g : g_S} {out : Int32 × g_S} (e : M_H_history v0 v1 g = some out) (c : Q (some (.int out.1)) (hp out.2)) : mw (ab_ext L xs) J_H_history [.ref v0, .int v1] (hp g) Q := by
  unfold M_H_history at e
  refine wp_p (j := J_H_history) 1 (pc' := 1) (lv' := [(0, .ref v0), (1, .int v1)]) (st' := [.ref v0]) rfl ?_
  refine x_gQ e rfl rfl fd_11_7 rfl (fun z1 e => ?_)
  refine x_cv0 (As := []) (rest := []) e rfl rfl rfl rfl rfl rfl (fun h => d_Acts_begin h ⟨rfl, rfl⟩) (fun g2 e => ?_)
  refine wp_p (j := J_H_history) 1 (pc' := 8) (lv' := [(0, .ref v0), (1, .int v1)]) (st' := [.ref v0]) rfl ?_
  refine x_gQ e rfl rfl fd_11_3 rfl (fun z3 e => ?_)
  refine wp_p (j := J_H_history) 1 (pc' := 12) (lv' := [(0, .ref v0), (1, .int v1)]) (st' := [.int v1, .ref z3]) rfl ?_
  refine x_cv2 (As := [.int v1]) (rest := []) Value.int e rfl rfl rfl rfl rfl rfl (fun h => d_Net_move h ⟨rfl, rfl⟩) (fun z4 g5 e => ?_)
  refine z_ne e rfl (fun e => ?_) (fun e => ?_)
  · refine wp_p (j := J_H_history) 1 (pc' := 19) (lv' := [(0, .ref v0), (1, .int v1)]) (st' := [.int (-1)]) rfl ?_
    have e := Option.some.inj e; subst e; exact wp_iret (ty := .int) rfl rfl rfl c
  · refine wp_p (j := J_H_history) 1 (pc' := 21) (lv' := [(0, .ref v0), (1, .int v1)]) (st' := [.ref v0]) rfl ?_
    refine x_gQ e rfl rfl fd_11_7 rfl (fun z6 e => ?_)
    refine x_cv0 (As := []) (rest := []) e rfl rfl rfl rfl rfl rfl (fun h => d_Acts_settle h ⟨rfl, rfl⟩) (fun g7 e => ?_)
    refine wp_p (j := J_H_history) 1 (pc' := 28) (lv' := [(0, .ref v0), (1, .int v1)]) (st' := [.ref v0]) rfl ?_
    refine x_gQ e rfl rfl fd_11_3 rfl (fun z8 e => ?_)
    refine x_gI e rfl rfl fd_6_19 rfl (fun z9 e => ?_)
    have e := Option.some.inj e; subst e; exact wp_iret (ty := .int) rfl rfl rfl c
noncomputable def M_H_showBytes (v0 : Nat) (v1 : Nat) (g : g_S) : Option (Int32 × g_S) :=
  (rQ g 111 v0 1).bind fun z1 =>
  (vc g 104 z1 (M_Bytes_clear z1 g)).bind fun g2 =>
  (rQ g2 111 v0 1).bind fun z3 =>
  (rQ g2 104 v1 1).bind fun z4 =>
  (rI g2 104 v1 2).bind fun z5 =>
  (vc g2 104 z3 (M_Bytes_addAll z3 z4 0 z5 g2)).bind fun g6 =>
  (rQ g6 111 v0 1).bind fun z7 =>
  (rI g6 104 z7 2).bind fun z8 =>
  some (z8, g6)
set_option maxRecDepth 20000 in
theorem d_H_showBytes {L : Nat} {xs : Nat → Int32} {Q : Option Value → ab_H → Prop} {v0 : Nat} {v1 : Nat} {g : g_S} {out : Int32 × g_S} (e : M_H_showBytes v0 v1 g = some out) (c : Q (some (.int out.1)) (hp out.2)) : mw (ab_ext L xs) J_H_showBytes [.ref v0, .ref v1] (hp g) Q := by
  unfold M_H_showBytes at e
  refine wp_p (j := J_H_showBytes) 1 (pc' := 1) (lv' := [(0, .ref v0), (1, .ref v1)]) (st' := [.ref v0]) rfl ?_
  refine x_gQ e rfl rfl fd_11_1 rfl (fun z1 e => ?_)
  refine x_cv0 (As := []) (rest := []) e rfl rfl rfl rfl rfl rfl (fun h => d_Bytes_clear h ⟨rfl, rfl⟩) (fun g2 e => ?_)
  refine wp_p (j := J_H_showBytes) 1 (pc' := 8) (lv' := [(0, .ref v0), (1, .ref v1)]) (st' := [.ref v0]) rfl ?_
  refine x_gQ e rfl rfl fd_11_1 rfl (fun z3 e => ?_)
  refine wp_p (j := J_H_showBytes) 1 (pc' := 12) (lv' := [(0, .ref v0), (1, .ref v1)]) (st' := [.ref v1, .ref z3]) rfl ?_
  refine x_gQ e rfl rfl fd_4_1 rfl (fun z4 e => ?_)
  refine wp_p (j := J_H_showBytes) 2 (pc' := 17) (lv' := [(0, .ref v0), (1, .ref v1)]) (st' := [.ref v1, .int 0, .ref z4, .ref z3]) rfl ?_
  refine x_gI e rfl rfl fd_4_2 rfl (fun z5 e => ?_)
  refine x_cv0 (As := [.ref z4, .int 0, .int z5]) (rest := []) e rfl rfl rfl rfl rfl rfl (fun h => d_Bytes_addAll h ⟨rfl, rfl⟩) (fun g6 e => ?_)
  refine wp_p (j := J_H_showBytes) 1 (pc' := 24) (lv' := [(0, .ref v0), (1, .ref v1)]) (st' := [.ref v0]) rfl ?_
  refine x_gQ e rfl rfl fd_11_1 rfl (fun z7 e => ?_)
  refine x_gI e rfl rfl fd_4_2 rfl (fun z8 e => ?_)
  have e := Option.some.inj e; subst e; exact wp_iret (ty := .int) rfl rfl rfl c
noncomputable def M_H_write (v0 : Nat) (v1 : Int32) (g : g_S) : Option (Int32 × g_S) :=
  if v1 = 0 then
    (rQ g 111 v0 3).bind fun z2 =>
    (rQ g 106 z2 13).bind fun z3 =>
    c2 (vc g 111 v0 (M_H_showAddress v0 z3 g)) fun z4 g5 =>
    some (z4, g5)
  else if v1 = 1 then
    (rQ g 111 v0 3).bind fun z7 =>
    (rQ g 106 z7 10).bind fun z8 =>
    c2 (vc g 111 v0 (M_H_showAddress v0 z8 g)) fun z9 g10 =>
    some (z9, g10)
  else if v1 = 2 then
    (rQ g 111 v0 3).bind fun z12 =>
    (rQ g 106 z12 11).bind fun z13 =>
    c2 (vc g 111 v0 (M_H_showBytes v0 z13 g)) fun z14 g15 =>
    some (z14, g15)
  else
    some ((-1), g)
set_option maxRecDepth 20000 in
theorem d_H_write {L : Nat} {xs : Nat → Int32} {Q : Option Value → ab_H → Prop} {v0 : Nat} {v1 : Int32} {g : g_S} {out : Int32 × g_S} (e : M_H_write v0 v1 g = some out) (c : Q (some (.int out.1)) (hp out.2)) : mw (ab_ext L xs) J_H_write [.ref v0, .int v1] (hp g) Q := by
  unfold M_H_write at e
  refine wp_p (j := J_H_write) 1 (pc' := 1) (lv' := [(0, .ref v0), (1, .int v1)]) (st' := [.int v1]) rfl ?_
  refine x_if e (fun h1 e => ?_) (fun h1 e => ?_)
  · refine x_sw (cst := 0) (pc' := 28) (rest := []) h1 rfl rfl rfl ?_
    refine wp_p (j := J_H_write) 2 (pc' := 30) (lv' := [(0, .ref v0), (1, .int v1)]) (st' := [.ref v0, .ref v0]) rfl ?_
    refine x_gQ e rfl rfl fd_11_3 rfl (fun z2 e => ?_)
    refine x_gQ e rfl rfl fd_6_13 rfl (fun z3 e => ?_)
    refine x_cv2 (As := [.ref z3]) (rest := []) Value.int e rfl rfl rfl rfl rfl rfl (fun h => d_H_showAddress h ⟨rfl, rfl⟩) (fun z4 g5 e => ?_)
    have e := Option.some.inj e; subst e; exact wp_iret (ty := .int) rfl rfl rfl c
  refine x_if e (fun h6 e => ?_) (fun h6 e => ?_)
  · refine x_sw (cst := 1) (pc' := 40) (rest := []) h6 rfl rfl rfl ?_
    refine wp_p (j := J_H_write) 2 (pc' := 42) (lv' := [(0, .ref v0), (1, .int v1)]) (st' := [.ref v0, .ref v0]) rfl ?_
    refine x_gQ e rfl rfl fd_11_3 rfl (fun z7 e => ?_)
    refine x_gQ e rfl rfl fd_6_10 rfl (fun z8 e => ?_)
    refine x_cv2 (As := [.ref z8]) (rest := []) Value.int e rfl rfl rfl rfl rfl rfl (fun h => d_H_showAddress h ⟨rfl, rfl⟩) (fun z9 g10 e => ?_)
    have e := Option.some.inj e; subst e; exact wp_iret (ty := .int) rfl rfl rfl c
  refine x_if e (fun h11 e => ?_) (fun h11 e => ?_)
  · refine x_sw (cst := 2) (pc' := 52) (rest := []) h11 rfl rfl rfl ?_
    refine wp_p (j := J_H_write) 2 (pc' := 54) (lv' := [(0, .ref v0), (1, .int v1)]) (st' := [.ref v0, .ref v0]) rfl ?_
    refine x_gQ e rfl rfl fd_11_3 rfl (fun z12 e => ?_)
    refine x_gQ e rfl rfl fd_6_11 rfl (fun z13 e => ?_)
    refine x_cv2 (As := [.ref z13]) (rest := []) Value.int e rfl rfl rfl rfl rfl rfl (fun h => d_H_showBytes h ⟨rfl, rfl⟩) (fun z14 g15 e => ?_)
    have e := Option.some.inj e; subst e; exact wp_iret (ty := .int) rfl rfl rfl c
  refine wp_b (pc' := 64) (st' := []) rfl rfl ((ts_d (x := v1) (lo := 0) 3 rfl ⟨h1, h6, h11, trivial⟩).trans rfl) ?_
  refine wp_p (j := J_H_write) 1 (pc' := 65) (lv' := [(0, .ref v0), (1, .int v1)]) (st' := [.int (-1)]) rfl ?_
  have e := Option.some.inj e; subst e; exact wp_iret (ty := .int) rfl rfl rfl c
def cL_Acts_takeDueTask_4 (L : Nat) (xs : Nat → Int32) (Q : Option Value → ab_H → Prop) (v0 : Nat) (g : g_S) (out : (Int32 × Int32) ⊕ (Int32)) : Prop := match out with
  | .inl s => wp (ab_ext L xs) J_Acts_takeDueTask 4 [(0, .ref v0), (1, .int s.1), (2, .int s.2)] [] (hp g) Q
  | .inr s => wp (ab_ext L xs) J_Acts_takeDueTask 65 [(0, .ref v0), (1, .int s)] [] (hp g) Q
noncomputable def b_Acts_takeDueTask_4 (v0 : Nat) (v1 : Int32) (v2 : Int32) (g : g_S) : Option ((Int32 × Int32) ⊕ (Int32)) :=
  (rI g 100 v0 5).bind fun z1 =>
  if v2 < z1 then
    (rQ g 100 v0 3).bind fun z2 =>
    (aL g z2 (2 * v2)).bind fun z3 =>
    (rQ g 100 v0 1).bind fun z4 =>
    (rI g 106 z4 12).bind fun z5 =>
    if 0 < (lg_cmp z3 (Int32.toInt64 z5)) then
      some (.inl (v1, v2 + 1))
    else
      if v1 = (-1) then
        some (.inl (v2, v2 + 1))
      else
        (rQ g 100 v0 3).bind fun z6 =>
        (aL g z6 (2 * v2)).bind fun z7 =>
        (rQ g 100 v0 3).bind fun z8 =>
        (aL g z8 (2 * v1)).bind fun z9 =>
        if (lg_cmp z7 z9) < 0 then
          some (.inl (v2, v2 + 1))
        else
          some (.inl (v1, v2 + 1))
  else
    some (.inr v1)
set_option maxRecDepth 20000 in
theorem y_Acts_takeDueTask_4 {L : Nat} {xs : Nat → Int32} {Q : Option Value → ab_H → Prop} {v0 : Nat} {v1 : Int32} {v2 : Int32} {g : g_S} {out : (Int32 × Int32) ⊕ (Int32)} (e : b_Acts_takeDueTask_4 v0 v1 v2 g = some out) (c : cL_Acts_takeDueTask_4 L xs Q v0 g out) : wp (ab_ext L xs) J_Acts_takeDueTask 4 [(0, .ref v0), (1, .int v1), (2, .int v2)] [] (hp g) Q := by
  unfold b_Acts_takeDueTask_4 at e
  refine wp_p (j := J_Acts_takeDueTask) 2 (pc' := 6) (lv' := [(0, .ref v0), (1, .int v1), (2, .int v2)]) (st' := [.ref v0, .int v2]) rfl ?_
  refine x_gI e rfl rfl fd_0_5 rfl (fun z1 e => ?_)
  refine x_ge e rfl (fun e => ?_) (fun e => ?_)
  · refine wp_p (j := J_Acts_takeDueTask) 1 (pc' := 13) (lv' := [(0, .ref v0), (1, .int v1), (2, .int v2)]) (st' := [.ref v0]) rfl ?_
    refine x_gQ e rfl rfl fd_0_3 rfl (fun z2 e => ?_)
    refine wp_p (j := J_Acts_takeDueTask) 3 (pc' := 19) (lv' := [(0, .ref v0), (1, .int v1), (2, .int v2)]) (st' := [.int (2 * v2), .ref z2]) rfl ?_
    refine x_aL e rfl rfl (fun z3 e => ?_)
    refine wp_p (j := J_Acts_takeDueTask) 1 (pc' := 21) (lv' := [(0, .ref v0), (1, .int v1), (2, .int v2)]) (st' := [.ref v0, .long z3]) rfl ?_
    refine x_gQ e rfl rfl fd_0_1 rfl (fun z4 e => ?_)
    refine x_gI e rfl rfl fd_6_12 rfl (fun z5 e => ?_)
    refine wp_p (j := J_Acts_takeDueTask) 2 (pc' := 29) (lv' := [(0, .ref v0), (1, .int v1), (2, .int v2)]) (st' := [.int (lg_cmp z3 (Int32.toInt64 z5))]) rfl ?_
    refine z_gt e rfl (fun e => ?_) (fun e => ?_)
    · refine wp_p (j := J_Acts_takeDueTask) 2 (pc' := 4) (lv' := [(2, .int (v2 + 1)), (0, .ref v0), (1, .int v1)]) (st' := []) rfl ?_
      have e := Option.some.inj e; subst e; exact wp_lv (lv' := [(0, .ref v0), (1, .int v1), (2, .int (v2 + 1))]) rfl ⟨rfl, rfl, rfl, trivial⟩ c
    · refine wp_p (j := J_Acts_takeDueTask) 2 (pc' := 34) (lv' := [(0, .ref v0), (1, .int v1), (2, .int v2)]) (st' := [.int (-1), .int v1]) rfl ?_
      refine x_eq e rfl (fun e => ?_) (fun e => ?_)
      · refine wp_p (j := J_Acts_takeDueTask) 4 (pc' := 4) (lv' := [(2, .int (v2 + 1)), (1, .int v2), (0, .ref v0)]) (st' := []) rfl ?_
        have e := Option.some.inj e; subst e; exact wp_lv (lv' := [(0, .ref v0), (1, .int v2), (2, .int (v2 + 1))]) rfl ⟨rfl, rfl, rfl, trivial⟩ c
      · refine wp_p (j := J_Acts_takeDueTask) 1 (pc' := 38) (lv' := [(0, .ref v0), (1, .int v1), (2, .int v2)]) (st' := [.ref v0]) rfl ?_
        refine x_gQ e rfl rfl fd_0_3 rfl (fun z6 e => ?_)
        refine wp_p (j := J_Acts_takeDueTask) 3 (pc' := 44) (lv' := [(0, .ref v0), (1, .int v1), (2, .int v2)]) (st' := [.int (2 * v2), .ref z6]) rfl ?_
        refine x_aL e rfl rfl (fun z7 e => ?_)
        refine wp_p (j := J_Acts_takeDueTask) 1 (pc' := 46) (lv' := [(0, .ref v0), (1, .int v1), (2, .int v2)]) (st' := [.ref v0, .long z7]) rfl ?_
        refine x_gQ e rfl rfl fd_0_3 rfl (fun z8 e => ?_)
        refine wp_p (j := J_Acts_takeDueTask) 3 (pc' := 52) (lv' := [(0, .ref v0), (1, .int v1), (2, .int v2)]) (st' := [.int (2 * v1), .ref z8, .long z7]) rfl ?_
        refine x_aL e rfl rfl (fun z9 e => ?_)
        refine wp_p (j := J_Acts_takeDueTask) 1 (pc' := 54) (lv' := [(0, .ref v0), (1, .int v1), (2, .int v2)]) (st' := [.int (lg_cmp z7 z9)]) rfl ?_
        refine z_ge e rfl (fun e => ?_) (fun e => ?_)
        · refine wp_p (j := J_Acts_takeDueTask) 4 (pc' := 4) (lv' := [(2, .int (v2 + 1)), (1, .int v2), (0, .ref v0)]) (st' := []) rfl ?_
          have e := Option.some.inj e; subst e; exact wp_lv (lv' := [(0, .ref v0), (1, .int v2), (2, .int (v2 + 1))]) rfl ⟨rfl, rfl, rfl, trivial⟩ c
        · refine wp_p (j := J_Acts_takeDueTask) 2 (pc' := 4) (lv' := [(2, .int (v2 + 1)), (0, .ref v0), (1, .int v1)]) (st' := []) rfl ?_
          have e := Option.some.inj e; subst e; exact wp_lv (lv' := [(0, .ref v0), (1, .int v1), (2, .int (v2 + 1))]) rfl ⟨rfl, rfl, rfl, trivial⟩ c
  · have e := Option.some.inj e; subst e; exact wp_lv (lv' := [(0, .ref v0), (1, .int v1)]) rfl ⟨rfl, rfl, trivial⟩ c
noncomputable def L_Acts_takeDueTask_4 (v0 : Nat) (v1 : Int32) (v2 : Int32) (g : g_S) : Option (Int32) := it (fun s : Int32 × Int32 => b_Acts_takeDueTask_4 v0 s.1 s.2 g) (v1, v2)
theorem l_Acts_takeDueTask_4 {L : Nat} {xs : Nat → Int32} {Q : Option Value → ab_H → Prop} {v0 : Nat} {v1 : Int32} {v2 : Int32} {g : g_S} {r : Int32} (e : L_Acts_takeDueTask_4 v0 v1 v2 g = some r) (c : cL_Acts_takeDueTask_4 L xs Q v0 g (.inr r)) : wp (ab_ext L xs) J_Acts_takeDueTask 4 [(0, .ref v0), (1, .int v1), (2, .int v2)] [] (hp g) Q :=
  it_wp (P := fun s : Int32 × Int32 => wp (ab_ext L xs) J_Acts_takeDueTask 4 [(0, .ref v0), (1, .int s.1), (2, .int s.2)] [] (hp g) Q) (E := fun r => cL_Acts_takeDueTask_4 L xs Q v0 g (.inr r)) (fun s out e c => y_Acts_takeDueTask_4 e (by cases out <;> exact c)) e c
theorem L_Acts_takeDueTask_4_eq (v0 : Nat) (v1 : Int32) (v2 : Int32) (g : g_S) : L_Acts_takeDueTask_4 v0 v1 v2 g = itc (b_Acts_takeDueTask_4 v0 v1 v2 g) (fun s => L_Acts_takeDueTask_4 v0 s.1 s.2 g) := it_eq2 (fun s : Int32 × Int32 => b_Acts_takeDueTask_4 v0 s.1 s.2 g) (v1, v2)
def cL_Acts_takeDueTask_113 (L : Nat) (xs : Nat → Int32) (Q : Option Value → ab_H → Prop) (v0 : Nat) (v2 : Nat) (out : (Int32 × g_S) ⊕ (g_S)) : Prop := match out with
  | .inl s => wp (ab_ext L xs) J_Acts_takeDueTask 113 [(0, .ref v0), (2, .ref v2), (3, .int s.1)] [] (hp s.2) Q
  | .inr s => wp (ab_ext L xs) J_Acts_takeDueTask 179 [(0, .ref v0), (2, .ref v2)] [] (hp s) Q
noncomputable def b_Acts_takeDueTask_113 (v0 : Nat) (v2 : Nat) (v3 : Int32) (g : g_S) : Option ((Int32 × g_S) ⊕ (g_S)) :=
  (rI g 100 v0 5).bind fun z1 =>
  if v3 < z1 then
    (rQ g 100 v0 3).bind fun z2 =>
    (rQ g 100 v0 3).bind fun z3 =>
    (aL g z3 ((2 * v3) + 2)).bind fun z4 =>
    (sL g z2 (2 * v3) z4).bind fun g5 =>
    (rQ g5 100 v0 3).bind fun z6 =>
    (rQ g5 100 v0 3).bind fun z7 =>
    (aL g5 z7 ((2 * v3) + 3)).bind fun z8 =>
    (sL g5 z6 ((2 * v3) + 1) z8).bind fun g9 =>
    (rQ g9 100 v0 4).bind fun z10 =>
    (rQ g9 100 v0 4).bind fun z11 =>
    (aQ g9 4 z11 (v3 + 1)).bind fun z12 =>
    (sQ g9 4 z10 v3 z12).bind fun g13 =>
    some (.inl (v3 + 1, g13))
  else
    some (.inr g)
set_option maxRecDepth 20000 in
theorem y_Acts_takeDueTask_113 {L : Nat} {xs : Nat → Int32} {Q : Option Value → ab_H → Prop} {v0 : Nat} {v2 : Nat} {v3 : Int32} {g : g_S} {out : (Int32 × g_S) ⊕ (g_S)} (e : b_Acts_takeDueTask_113 v0 v2 v3 g = some out) (c : cL_Acts_takeDueTask_113 L xs Q v0 v2 out) : wp (ab_ext L xs) J_Acts_takeDueTask 113 [(0, .ref v0), (2, .ref v2), (3, .int v3)] [] (hp g) Q := by
  unfold b_Acts_takeDueTask_113 at e
  refine wp_p (j := J_Acts_takeDueTask) 2 (pc' := 115) (lv' := [(0, .ref v0), (2, .ref v2), (3, .int v3)]) (st' := [.ref v0, .int v3]) rfl ?_
  refine x_gI e rfl rfl fd_0_5 rfl (fun z1 e => ?_)
  refine x_ge e rfl (fun e => ?_) (fun e => ?_)
  · refine wp_p (j := J_Acts_takeDueTask) 1 (pc' := 122) (lv' := [(0, .ref v0), (2, .ref v2), (3, .int v3)]) (st' := [.ref v0]) rfl ?_
    refine x_gQ e rfl rfl fd_0_3 rfl (fun z2 e => ?_)
    refine wp_p (j := J_Acts_takeDueTask) 4 (pc' := 129) (lv' := [(0, .ref v0), (2, .ref v2), (3, .int v3)]) (st' := [.ref v0, .int (2 * v3), .ref z2]) rfl ?_
    refine x_gQ e rfl rfl fd_0_3 rfl (fun z3 e => ?_)
    refine wp_p (j := J_Acts_takeDueTask) 5 (pc' := 137) (lv' := [(0, .ref v0), (2, .ref v2), (3, .int v3)]) (st' := [.int ((2 * v3) + 2), .ref z3, .int (2 * v3), .ref z2]) rfl ?_
    refine x_aL e rfl rfl (fun z4 e => ?_)
    refine x_sL e rfl rfl (fun g5 e => ?_)
    refine wp_p (j := J_Acts_takeDueTask) 1 (pc' := 140) (lv' := [(0, .ref v0), (2, .ref v2), (3, .int v3)]) (st' := [.ref v0]) rfl ?_
    refine x_gQ e rfl rfl fd_0_3 rfl (fun z6 e => ?_)
    refine wp_p (j := J_Acts_takeDueTask) 6 (pc' := 149) (lv' := [(0, .ref v0), (2, .ref v2), (3, .int v3)]) (st' := [.ref v0, .int ((2 * v3) + 1), .ref z6]) rfl ?_
    refine x_gQ e rfl rfl fd_0_3 rfl (fun z7 e => ?_)
    refine wp_p (j := J_Acts_takeDueTask) 5 (pc' := 157) (lv' := [(0, .ref v0), (2, .ref v2), (3, .int v3)]) (st' := [.int ((2 * v3) + 3), .ref z7, .int ((2 * v3) + 1), .ref z6]) rfl ?_
    refine x_aL e rfl rfl (fun z8 e => ?_)
    refine x_sL e rfl rfl (fun g9 e => ?_)
    refine wp_p (j := J_Acts_takeDueTask) 1 (pc' := 160) (lv' := [(0, .ref v0), (2, .ref v2), (3, .int v3)]) (st' := [.ref v0]) rfl ?_
    refine x_gQ e rfl rfl fd_0_4 rfl (fun z10 e => ?_)
    refine wp_p (j := J_Acts_takeDueTask) 2 (pc' := 165) (lv' := [(0, .ref v0), (2, .ref v2), (3, .int v3)]) (st' := [.ref v0, .int v3, .ref z10]) rfl ?_
    refine x_gQ e rfl rfl fd_0_4 rfl (fun z11 e => ?_)
    refine wp_p (j := J_Acts_takeDueTask) 3 (pc' := 171) (lv' := [(0, .ref v0), (2, .ref v2), (3, .int v3)]) (st' := [.int (v3 + 1), .ref z11, .int v3, .ref z10]) rfl ?_
    refine x_aQ e rfl rfl rfl (fun z12 e => ?_)
    refine x_sQ e rfl rfl rfl (fun g13 e => ?_)
    refine wp_p (j := J_Acts_takeDueTask) 2 (pc' := 113) (lv' := [(3, .int (v3 + 1)), (0, .ref v0), (2, .ref v2)]) (st' := []) rfl ?_
    have e := Option.some.inj e; subst e; exact wp_lv (lv' := [(0, .ref v0), (2, .ref v2), (3, .int (v3 + 1))]) rfl ⟨rfl, rfl, rfl, trivial⟩ c
  · have e := Option.some.inj e; subst e; exact wp_lv (lv' := [(0, .ref v0), (2, .ref v2)]) rfl ⟨rfl, rfl, trivial⟩ c
noncomputable def L_Acts_takeDueTask_113 (v0 : Nat) (v2 : Nat) (v3 : Int32) (g : g_S) : Option (g_S) := it (fun s : Int32 × g_S => b_Acts_takeDueTask_113 v0 v2 s.1 s.2) (v3, g)
theorem l_Acts_takeDueTask_113 {L : Nat} {xs : Nat → Int32} {Q : Option Value → ab_H → Prop} {v0 : Nat} {v2 : Nat} {v3 : Int32} {g : g_S} {r : g_S} (e : L_Acts_takeDueTask_113 v0 v2 v3 g = some r) (c : cL_Acts_takeDueTask_113 L xs Q v0 v2 (.inr r)) : wp (ab_ext L xs) J_Acts_takeDueTask 113 [(0, .ref v0), (2, .ref v2), (3, .int v3)] [] (hp g) Q :=
  it_wp (P := fun s : Int32 × g_S => wp (ab_ext L xs) J_Acts_takeDueTask 113 [(0, .ref v0), (2, .ref v2), (3, .int s.1)] [] (hp s.2) Q) (E := fun r => cL_Acts_takeDueTask_113 L xs Q v0 v2 (.inr r)) (fun s out e c => y_Acts_takeDueTask_113 e (by cases out <;> exact c)) e c
theorem L_Acts_takeDueTask_113_eq (v0 : Nat) (v2 : Nat) (v3 : Int32) (g : g_S) : L_Acts_takeDueTask_113 v0 v2 v3 g = itc (b_Acts_takeDueTask_113 v0 v2 v3 g) (fun s => L_Acts_takeDueTask_113 v0 v2 s.1 s.2) := it_eq2 (fun s : Int32 × g_S => b_Acts_takeDueTask_113 v0 v2 s.1 s.2) (v3, g)
noncomputable def M_Acts_takeDueTask (v0 : Nat) (g : g_S) : Option (Int32 × g_S) :=
  (L_Acts_takeDueTask_4 v0 (-1) 0 g).bind <| fun z3 =>
  if z3 = (-1) then
    some (0, g)
  else
    (rI g 100 v0 9).bind fun z4 =>
    if z4 = 0 then
      some (0, g)
    else
      (rQ g 100 v0 4).bind fun z5 =>
      (aQ g 4 z5 z3).bind fun z6 =>
      (rQ g 100 v0 3).bind fun z7 =>
      (aL g z7 ((2 * z3) + 1)).bind fun z8 =>
      (vc g 100 v0 (M_Acts_startScript v0 z6 z8 g)).bind fun g9 =>
      (rI g9 100 v0 5).bind fun z10 =>
      (wI g9 100 v0 5 (z10 - 1)).bind fun g11 =>
      (L_Acts_takeDueTask_113 v0 z6 z3 g11).bind <| fun g14 =>
      (rQ g14 100 v0 4).bind fun z15 =>
      (rI g14 100 v0 5).bind fun z16 =>
      (sQ g14 4 z15 z16 z6).bind fun g17 =>
      some (1, g17)
set_option maxRecDepth 20000 in
theorem d_Acts_takeDueTask {L : Nat} {xs : Nat → Int32} {Q : Option Value → ab_H → Prop} {v0 : Nat} {g : g_S} {out : Int32 × g_S} (e : M_Acts_takeDueTask v0 g = some out) (c : Q (some (.int out.1)) (hp out.2)) : mw (ab_ext L xs) J_Acts_takeDueTask [.ref v0] (hp g) Q := by
  unfold M_Acts_takeDueTask at e
  refine wp_p (j := J_Acts_takeDueTask) 4 (pc' := 4) (lv' := [(2, .int 0), (1, .int (-1)), (0, .ref v0)]) (st' := []) rfl ?_
  obtain ⟨z3, h2, e⟩ := bd e
  refine wp_lv (lv' := [(0, .ref v0), (1, .int (-1)), (2, .int 0)]) rfl ⟨rfl, rfl, rfl, trivial⟩ ?_
  refine l_Acts_takeDueTask_4 h2 ?_
  show wp (ab_ext L xs) J_Acts_takeDueTask 65 [(0, .ref v0), (1, .int z3)] [] (hp g) Q
  refine wp_p (j := J_Acts_takeDueTask) 2 (pc' := 67) (lv' := [(0, .ref v0), (1, .int z3)]) (st' := [.int (-1), .int z3]) rfl ?_
  refine x_eq e rfl (fun e => ?_) (fun e => ?_)
  · refine wp_p (j := J_Acts_takeDueTask) 1 (pc' := 78) (lv' := [(0, .ref v0), (1, .int z3)]) (st' := [.int 0]) rfl ?_
    have e := Option.some.inj e; subst e; exact wp_iret (ty := .boolean) rfl rfl (by decide) c
  · refine wp_p (j := J_Acts_takeDueTask) 1 (pc' := 71) (lv' := [(0, .ref v0), (1, .int z3)]) (st' := [.ref v0]) rfl ?_
    refine x_gI e rfl rfl fd_0_9 rfl (fun z4 e => ?_)
    refine z_ne e rfl (fun e => ?_) (fun e => ?_)
    · refine wp_p (j := J_Acts_takeDueTask) 1 (pc' := 78) (lv' := [(0, .ref v0), (1, .int z3)]) (st' := [.int 0]) rfl ?_
      have e := Option.some.inj e; subst e; exact wp_iret (ty := .boolean) rfl rfl (by decide) c
    · refine wp_p (j := J_Acts_takeDueTask) 1 (pc' := 80) (lv' := [(0, .ref v0), (1, .int z3)]) (st' := [.ref v0]) rfl ?_
      refine x_gQ e rfl rfl fd_0_4 rfl (fun z5 e => ?_)
      refine wp_p (j := J_Acts_takeDueTask) 1 (pc' := 84) (lv' := [(0, .ref v0), (1, .int z3)]) (st' := [.int z3, .ref z5]) rfl ?_
      refine x_aQ e rfl rfl rfl (fun z6 e => ?_)
      refine wp_p (j := J_Acts_takeDueTask) 4 (pc' := 89) (lv' := [(2, .ref z6), (0, .ref v0), (1, .int z3)]) (st' := [.ref v0, .ref z6, .ref v0]) rfl ?_
      refine x_gQ e rfl rfl fd_0_3 rfl (fun z7 e => ?_)
      refine wp_p (j := J_Acts_takeDueTask) 5 (pc' := 97) (lv' := [(2, .ref z6), (0, .ref v0), (1, .int z3)]) (st' := [.int ((2 * z3) + 1), .ref z7, .ref z6, .ref v0]) rfl ?_
      refine x_aL e rfl rfl (fun z8 e => ?_)
      refine x_cv0 (As := [.ref z6, .long z8]) (rest := []) e rfl rfl rfl rfl rfl rfl (fun h => d_Acts_startScript h ⟨rfl, rfl⟩) (fun g9 e => ?_)
      refine wp_p (j := J_Acts_takeDueTask) 2 (pc' := 103) (lv' := [(2, .ref z6), (0, .ref v0), (1, .int z3)]) (st' := [.ref v0, .ref v0]) rfl ?_
      refine x_gI e rfl rfl fd_0_5 rfl (fun z10 e => ?_)
      refine wp_p (j := J_Acts_takeDueTask) 2 (pc' := 108) (lv' := [(2, .ref z6), (0, .ref v0), (1, .int z3)]) (st' := [.int (z10 - 1), .ref v0]) rfl ?_
      refine x_pI e rfl rfl fw_0_5 rfl (fun g11 e => ?_)
      refine wp_p (j := J_Acts_takeDueTask) 2 (pc' := 113) (lv' := [(3, .int z3), (2, .ref z6), (0, .ref v0), (1, .int z3)]) (st' := []) rfl ?_
      obtain ⟨g14, h13, e⟩ := bd e
      refine wp_lv (lv' := [(0, .ref v0), (2, .ref z6), (3, .int z3)]) rfl ⟨rfl, rfl, rfl, trivial⟩ ?_
      refine l_Acts_takeDueTask_113 h13 ?_
      show wp (ab_ext L xs) J_Acts_takeDueTask 179 [(0, .ref v0), (2, .ref z6)] [] (hp g14) Q
      refine wp_p (j := J_Acts_takeDueTask) 1 (pc' := 180) (lv' := [(0, .ref v0), (2, .ref z6)]) (st' := [.ref v0]) rfl ?_
      refine x_gQ e rfl rfl fd_0_4 rfl (fun z15 e => ?_)
      refine wp_p (j := J_Acts_takeDueTask) 1 (pc' := 184) (lv' := [(0, .ref v0), (2, .ref z6)]) (st' := [.ref v0, .ref z15]) rfl ?_
      refine x_gI e rfl rfl fd_0_5 rfl (fun z16 e => ?_)
      refine wp_p (j := J_Acts_takeDueTask) 1 (pc' := 188) (lv' := [(0, .ref v0), (2, .ref z6)]) (st' := [.ref z6, .int z16, .ref z15]) rfl ?_
      refine x_sQ e rfl rfl rfl (fun g17 e => ?_)
      refine wp_p (j := J_Acts_takeDueTask) 1 (pc' := 190) (lv' := [(0, .ref v0), (2, .ref z6)]) (st' := [.int 1]) rfl ?_
      have e := Option.some.inj e; subst e; exact wp_iret (ty := .boolean) rfl rfl (by decide) c
def cL_H_tick_37 (L : Nat) (xs : Nat → Int32) (Q : Option Value → ab_H → Prop) (v0 : Nat) (out : (Int32 × Int32 × g_S) ⊕ (Int32 × g_S)) : Prop := match out with
  | .inl s => wp (ab_ext L xs) J_H_tick 37 [(0, .ref v0), (2, .int s.1), (3, .int s.2.1)] [] (hp s.2.2) Q
  | .inr s => wp (ab_ext L xs) J_H_tick 69 [(2, .int s.1)] [] (hp s.2) Q
noncomputable def b_H_tick_37 (v0 : Nat) (v2 : Int32) (v3 : Int32) (g : g_S) : Option ((Int32 × Int32 × g_S) ⊕ (Int32 × g_S)) :=
  if v3 < 100000 then
    (rQ g 111 v0 7).bind fun z1 =>
    c2 (vc g 100 z1 (M_Acts_takeDueTask z1 g)) fun z2 g3 =>
    if z2 = 0 then
      some (.inr (v2, g3))
    else
      (rQ g3 111 v0 7).bind fun z4 =>
      (vc g3 100 z4 (M_Acts_settle z4 g3)).bind fun g5 =>
      some (.inl (v2 + 1, v3 + 1, g5))
  else
    some (.inr (v2, g))
set_option maxRecDepth 20000 in
theorem y_H_tick_37 {L : Nat} {xs : Nat → Int32} {Q : Option Value → ab_H → Prop} {v0 : Nat} {v2 : Int32} {v3 : Int32} {g : g_S} {out : (Int32 × Int32 × g_S) ⊕ (Int32 × g_S)} (e : b_H_tick_37 v0 v2 v3 g = some out) (c : cL_H_tick_37 L xs Q v0 out) : wp (ab_ext L xs) J_H_tick 37 [(0, .ref v0), (2, .int v2), (3, .int v3)] [] (hp g) Q := by
  unfold b_H_tick_37 at e
  refine wp_p (j := J_H_tick) 1 (pc' := 38) (lv' := [(0, .ref v0), (2, .int v2), (3, .int v3)]) (st' := [.int v3]) rfl ?_
  refine x_ld (x := 100000) rfl rfl rfl ?_
  refine x_ge e rfl (fun e => ?_) (fun e => ?_)
  · refine wp_p (j := J_H_tick) 1 (pc' := 44) (lv' := [(0, .ref v0), (2, .int v2), (3, .int v3)]) (st' := [.ref v0]) rfl ?_
    refine x_gQ e rfl rfl fd_11_7 rfl (fun z1 e => ?_)
    refine x_cv2 (As := []) (rest := []) Value.int e rfl rfl rfl rfl rfl rfl (fun h => d_Acts_takeDueTask h ⟨rfl, rfl⟩) (fun z2 g3 e => ?_)
    refine z_eq e rfl (fun e => ?_) (fun e => ?_)
    · have e := Option.some.inj e; subst e; exact wp_lv (lv' := [(2, .int v2)]) rfl ⟨rfl, trivial⟩ c
    · refine wp_p (j := J_H_tick) 2 (pc' := 57) (lv' := [(2, .int (v2 + 1)), (0, .ref v0), (3, .int v3)]) (st' := [.ref v0]) rfl ?_
      refine x_gQ e rfl rfl fd_11_7 rfl (fun z4 e => ?_)
      refine x_cv0 (As := []) (rest := []) e rfl rfl rfl rfl rfl rfl (fun h => d_Acts_settle h ⟨rfl, rfl⟩) (fun g5 e => ?_)
      refine wp_p (j := J_H_tick) 2 (pc' := 37) (lv' := [(3, .int (v3 + 1)), (2, .int (v2 + 1)), (0, .ref v0)]) (st' := []) rfl ?_
      have e := Option.some.inj e; subst e; exact wp_lv (lv' := [(0, .ref v0), (2, .int (v2 + 1)), (3, .int (v3 + 1))]) rfl ⟨rfl, rfl, rfl, trivial⟩ c
  · have e := Option.some.inj e; subst e; exact wp_lv (lv' := [(2, .int v2)]) rfl ⟨rfl, trivial⟩ c
noncomputable def L_H_tick_37 (v0 : Nat) (v2 : Int32) (v3 : Int32) (g : g_S) : Option (Int32 × g_S) := it (fun s : Int32 × Int32 × g_S => b_H_tick_37 v0 s.1 s.2.1 s.2.2) (v2, v3, g)
theorem l_H_tick_37 {L : Nat} {xs : Nat → Int32} {Q : Option Value → ab_H → Prop} {v0 : Nat} {v2 : Int32} {v3 : Int32} {g : g_S} {r : Int32 × g_S} (e : L_H_tick_37 v0 v2 v3 g = some r) (c : cL_H_tick_37 L xs Q v0 (.inr r)) : wp (ab_ext L xs) J_H_tick 37 [(0, .ref v0), (2, .int v2), (3, .int v3)] [] (hp g) Q :=
  it_wp (P := fun s : Int32 × Int32 × g_S => wp (ab_ext L xs) J_H_tick 37 [(0, .ref v0), (2, .int s.1), (3, .int s.2.1)] [] (hp s.2.2) Q) (E := fun r => cL_H_tick_37 L xs Q v0 (.inr r)) (fun s out e c => y_H_tick_37 e (by cases out <;> exact c)) e c
theorem L_H_tick_37_eq (v0 : Nat) (v2 : Int32) (v3 : Int32) (g : g_S) : L_H_tick_37 v0 v2 v3 g = itc (b_H_tick_37 v0 v2 v3 g) (fun s => L_H_tick_37 v0 s.1 s.2.1 s.2.2) := it_eq2 (fun s : Int32 × Int32 × g_S => b_H_tick_37 v0 s.1 s.2.1 s.2.2) (v2, v3, g)
noncomputable def M_H_tick (v0 : Nat) (v1 : Int32) (g : g_S) : Option (Int32 × g_S) :=
  if v1 < 0 then
    some ((-1), g)
  else
    if 1000 < v1 then
      some ((-1), g)
    else
      (rQ g 111 v0 3).bind fun z1 =>
      (rI g 106 z1 12).bind fun z2 =>
      (wI g 106 z1 12 (z2 + v1)).bind fun g3 =>
      (rQ g3 111 v0 7).bind fun z4 =>
      (vc g3 100 z4 (M_Acts_begin z4 g3)).bind fun g5 =>
      (L_H_tick_37 v0 0 0 g5).bind <| u2 fun z8 g9 =>
      some (z8, g9)
set_option maxRecDepth 20000 in
theorem d_H_tick {L : Nat} {xs : Nat → Int32} {Q : Option Value → ab_H → Prop} {v0 : Nat} {v1 : Int32} {g : g_S} {out : Int32 × g_S} (e : M_H_tick v0 v1 g = some out) (c : Q (some (.int out.1)) (hp out.2)) : mw (ab_ext L xs) J_H_tick [.ref v0, .int v1] (hp g) Q := by
  unfold M_H_tick at e
  refine wp_p (j := J_H_tick) 1 (pc' := 1) (lv' := [(0, .ref v0), (1, .int v1)]) (st' := [.int v1]) rfl ?_
  refine z_lt e rfl (fun e => ?_) (fun e => ?_)
  · refine wp_p (j := J_H_tick) 1 (pc' := 12) (lv' := [(0, .ref v0), (1, .int v1)]) (st' := [.int (-1)]) rfl ?_
    have e := Option.some.inj e; subst e; exact wp_iret (ty := .int) rfl rfl rfl c
  · refine wp_p (j := J_H_tick) 2 (pc' := 8) (lv' := [(0, .ref v0), (1, .int v1)]) (st' := [.int 1000, .int v1]) rfl ?_
    refine x_le e rfl (fun e => ?_) (fun e => ?_)
    · refine wp_p (j := J_H_tick) 1 (pc' := 12) (lv' := [(0, .ref v0), (1, .int v1)]) (st' := [.int (-1)]) rfl ?_
      have e := Option.some.inj e; subst e; exact wp_iret (ty := .int) rfl rfl rfl c
    · refine wp_p (j := J_H_tick) 1 (pc' := 14) (lv' := [(0, .ref v0), (1, .int v1)]) (st' := [.ref v0]) rfl ?_
      refine x_gQ e rfl rfl fd_11_3 rfl (fun z1 e => ?_)
      refine wp_p (j := J_H_tick) 1 (pc' := 18) (lv' := [(0, .ref v0), (1, .int v1)]) (st' := [.ref z1, .ref z1]) rfl ?_
      refine x_gI e rfl rfl fd_6_12 rfl (fun z2 e => ?_)
      refine wp_p (j := J_H_tick) 2 (pc' := 23) (lv' := [(0, .ref v0), (1, .int v1)]) (st' := [.int (z2 + v1), .ref z1]) rfl ?_
      refine x_pI e rfl rfl fw_6_12 rfl (fun g3 e => ?_)
      refine wp_p (j := J_H_tick) 1 (pc' := 27) (lv' := [(0, .ref v0), (1, .int v1)]) (st' := [.ref v0]) rfl ?_
      refine x_gQ e rfl rfl fd_11_7 rfl (fun z4 e => ?_)
      refine x_cv0 (As := []) (rest := []) e rfl rfl rfl rfl rfl rfl (fun h => d_Acts_begin h ⟨rfl, rfl⟩) (fun g5 e => ?_)
      refine wp_p (j := J_H_tick) 4 (pc' := 37) (lv' := [(3, .int 0), (2, .int 0), (0, .ref v0), (1, .int v1)]) (st' := []) rfl ?_
      obtain ⟨s6, h7, e⟩ := bd e
      refine wp_lv (lv' := [(0, .ref v0), (2, .int 0), (3, .int 0)]) rfl ⟨rfl, rfl, rfl, trivial⟩ ?_
      refine l_H_tick_37 h7 ?_
      obtain ⟨z8, g9⟩ := s6
      replace e := u2_e e
      show wp (ab_ext L xs) J_H_tick 69 [(2, .int z8)] [] (hp g9) Q
      refine wp_p (j := J_H_tick) 1 (pc' := 70) (lv' := [(2, .int z8)]) (st' := [.int z8]) rfl ?_
      have e := Option.some.inj e; subst e; exact wp_iret (ty := .int) rfl rfl rfl c
noncomputable def M_H_isNode (v0 : Nat) (v1 : Int32) (g : g_S) : Option Int32 :=
  if v1 < 0 then
    some 0
  else
    if v1 < 120 then
      (rQ g 111 v0 2).bind fun z1 =>
      (rQ g 110 z1 0).bind fun z2 =>
      (aQ g 5 z2 v1).bind fun z3 =>
      (rI g 107 z3 0).bind fun z4 =>
      if z4 = (-1) then
        some 0
      else
        some 1
    else
      some 0
set_option maxRecDepth 20000 in
theorem d_H_isNode {L : Nat} {xs : Nat → Int32} {Q : Option Value → ab_H → Prop} {v0 : Nat} {v1 : Int32} {g : g_S} {out : Int32} (e : M_H_isNode v0 v1 g = some out) (c : Q (some (.int out)) (hp g)) : mw (ab_ext L xs) J_H_isNode [.ref v0, .int v1] (hp g) Q := by
  unfold M_H_isNode at e
  refine wp_p (j := J_H_isNode) 1 (pc' := 1) (lv' := [(0, .ref v0), (1, .int v1)]) (st' := [.int v1]) rfl ?_
  refine z_lt e rfl (fun e => ?_) (fun e => ?_)
  · refine wp_p (j := J_H_isNode) 1 (pc' := 31) (lv' := [(0, .ref v0), (1, .int v1)]) (st' := [.int 0]) rfl ?_
    have e := Option.some.inj e; subst e; exact wp_iret (ty := .boolean) rfl rfl (by decide) c
  · refine wp_p (j := J_H_isNode) 2 (pc' := 7) (lv' := [(0, .ref v0), (1, .int v1)]) (st' := [.int 120, .int v1]) rfl ?_
    refine x_ge e rfl (fun e => ?_) (fun e => ?_)
    · refine wp_p (j := J_H_isNode) 1 (pc' := 11) (lv' := [(0, .ref v0), (1, .int v1)]) (st' := [.ref v0]) rfl ?_
      refine x_gQ e rfl rfl fd_11_2 rfl (fun z1 e => ?_)
      refine x_gQ e rfl rfl fd_10_0 rfl (fun z2 e => ?_)
      refine wp_p (j := J_H_isNode) 1 (pc' := 18) (lv' := [(0, .ref v0), (1, .int v1)]) (st' := [.int v1, .ref z2]) rfl ?_
      refine x_aQ e rfl rfl rfl (fun z3 e => ?_)
      refine x_gI e rfl rfl fd_7_0 rfl (fun z4 e => ?_)
      refine wp_p (j := J_H_isNode) 1 (pc' := 23) (lv' := [(0, .ref v0), (1, .int v1)]) (st' := [.int (-1), .int z4]) rfl ?_
      refine x_eq e rfl (fun e => ?_) (fun e => ?_)
      · refine wp_p (j := J_H_isNode) 1 (pc' := 31) (lv' := [(0, .ref v0), (1, .int v1)]) (st' := [.int 0]) rfl ?_
        have e := Option.some.inj e; subst e; exact wp_iret (ty := .boolean) rfl rfl (by decide) c
      · refine wp_p (j := J_H_isNode) 2 (pc' := 31) (lv' := [(0, .ref v0), (1, .int v1)]) (st' := [.int 1]) rfl ?_
        have e := Option.some.inj e; subst e; exact wp_iret (ty := .boolean) rfl rfl (by decide) c
    · refine wp_p (j := J_H_isNode) 1 (pc' := 31) (lv' := [(0, .ref v0), (1, .int v1)]) (st' := [.int 0]) rfl ?_
      have e := Option.some.inj e; subst e; exact wp_iret (ty := .boolean) rfl rfl (by decide) c
def cL_Tree_rankOf_35 (L : Nat) (xs : Nat → Int32) (Q : Option Value → ab_H → Prop) (v0 : Nat) (v1 : Int32) (g : g_S) (out : (Int32 × Int32) ⊕ (Int32)) : Prop := match out with
  | .inl s => wp (ab_ext L xs) J_Tree_rankOf 35 [(0, .ref v0), (1, .int v1), (2, .int s.1), (3, .int s.2)] [] (hp g) Q
  | .inr s => wp (ab_ext L xs) J_Tree_rankOf 61 [(2, .int s)] [] (hp g) Q
noncomputable def b_Tree_rankOf_35 (v0 : Nat) (v1 : Int32) (v2 : Int32) (v3 : Int32) (g : g_S) : Option ((Int32 × Int32) ⊕ (Int32)) :=
  if v3 = (-1) then
    some (.inr v2)
  else
    if v3 = v1 then
      some (.inr v2)
    else
      (rQ g 110 v0 0).bind fun z1 =>
      (aQ g 5 z1 v3).bind fun z2 =>
      (rI g 107 z2 5).bind fun z3 =>
      some (.inl (v2 + 1, z3))
set_option maxRecDepth 20000 in
theorem y_Tree_rankOf_35 {L : Nat} {xs : Nat → Int32} {Q : Option Value → ab_H → Prop} {v0 : Nat} {v1 : Int32} {v2 : Int32} {v3 : Int32} {g : g_S} {out : (Int32 × Int32) ⊕ (Int32)} (e : b_Tree_rankOf_35 v0 v1 v2 v3 g = some out) (c : cL_Tree_rankOf_35 L xs Q v0 v1 g out) : wp (ab_ext L xs) J_Tree_rankOf 35 [(0, .ref v0), (1, .int v1), (2, .int v2), (3, .int v3)] [] (hp g) Q := by
  unfold b_Tree_rankOf_35 at e
  refine wp_p (j := J_Tree_rankOf) 2 (pc' := 37) (lv' := [(0, .ref v0), (1, .int v1), (2, .int v2), (3, .int v3)]) (st' := [.int (-1), .int v3]) rfl ?_
  refine x_eq e rfl (fun e => ?_) (fun e => ?_)
  · have e := Option.some.inj e; subst e; exact wp_lv (lv' := [(2, .int v2)]) rfl ⟨rfl, trivial⟩ c
  · refine wp_p (j := J_Tree_rankOf) 2 (pc' := 42) (lv' := [(0, .ref v0), (1, .int v1), (2, .int v2), (3, .int v3)]) (st' := [.int v1, .int v3]) rfl ?_
    refine x_eq e rfl (fun e => ?_) (fun e => ?_)
    · have e := Option.some.inj e; subst e; exact wp_lv (lv' := [(2, .int v2)]) rfl ⟨rfl, trivial⟩ c
    · refine wp_p (j := J_Tree_rankOf) 2 (pc' := 49) (lv' := [(2, .int (v2 + 1)), (0, .ref v0), (1, .int v1), (3, .int v3)]) (st' := [.ref v0]) rfl ?_
      refine x_gQ e rfl rfl fd_10_0 rfl (fun z1 e => ?_)
      refine wp_p (j := J_Tree_rankOf) 1 (pc' := 53) (lv' := [(2, .int (v2 + 1)), (0, .ref v0), (1, .int v1), (3, .int v3)]) (st' := [.int v3, .ref z1]) rfl ?_
      refine x_aQ e rfl rfl rfl (fun z2 e => ?_)
      refine x_gI e rfl rfl fd_7_5 rfl (fun z3 e => ?_)
      refine wp_p (j := J_Tree_rankOf) 2 (pc' := 35) (lv' := [(3, .int z3), (2, .int (v2 + 1)), (0, .ref v0), (1, .int v1)]) (st' := []) rfl ?_
      have e := Option.some.inj e; subst e; exact wp_lv (lv' := [(0, .ref v0), (1, .int v1), (2, .int (v2 + 1)), (3, .int z3)]) rfl ⟨rfl, rfl, rfl, rfl, trivial⟩ c
noncomputable def L_Tree_rankOf_35 (v0 : Nat) (v1 : Int32) (v2 : Int32) (v3 : Int32) (g : g_S) : Option (Int32) := it (fun s : Int32 × Int32 => b_Tree_rankOf_35 v0 v1 s.1 s.2 g) (v2, v3)
theorem l_Tree_rankOf_35 {L : Nat} {xs : Nat → Int32} {Q : Option Value → ab_H → Prop} {v0 : Nat} {v1 : Int32} {v2 : Int32} {v3 : Int32} {g : g_S} {r : Int32} (e : L_Tree_rankOf_35 v0 v1 v2 v3 g = some r) (c : cL_Tree_rankOf_35 L xs Q v0 v1 g (.inr r)) : wp (ab_ext L xs) J_Tree_rankOf 35 [(0, .ref v0), (1, .int v1), (2, .int v2), (3, .int v3)] [] (hp g) Q :=
  it_wp (P := fun s : Int32 × Int32 => wp (ab_ext L xs) J_Tree_rankOf 35 [(0, .ref v0), (1, .int v1), (2, .int s.1), (3, .int s.2)] [] (hp g) Q) (E := fun r => cL_Tree_rankOf_35 L xs Q v0 v1 g (.inr r)) (fun s out e c => y_Tree_rankOf_35 e (by cases out <;> exact c)) e c
theorem L_Tree_rankOf_35_eq (v0 : Nat) (v1 : Int32) (v2 : Int32) (v3 : Int32) (g : g_S) : L_Tree_rankOf_35 v0 v1 v2 v3 g = itc (b_Tree_rankOf_35 v0 v1 v2 v3 g) (fun s => L_Tree_rankOf_35 v0 v1 s.1 s.2 g) := it_eq2 (fun s : Int32 × Int32 => b_Tree_rankOf_35 v0 v1 s.1 s.2 g) (v2, v3)
noncomputable def M_Tree_rankOf (v0 : Nat) (v1 : Int32) (g : g_S) : Option Int32 :=
  (rQ g 110 v0 0).bind fun z1 =>
  (aQ g 5 z1 v1).bind fun z2 =>
  (rI g 107 z2 2).bind fun z3 =>
  if z3 = (-1) then
    some 0
  else
    (rQ g 110 v0 0).bind fun z4 =>
    (rQ g 110 v0 0).bind fun z5 =>
    (aQ g 5 z5 v1).bind fun z6 =>
    (rI g 107 z6 2).bind fun z7 =>
    (aQ g 5 z4 z7).bind fun z8 =>
    (rI g 107 z8 3).bind fun z9 =>
    (L_Tree_rankOf_35 v0 v1 0 z9 g).bind <| fun z12 =>
    some z12
set_option maxRecDepth 20000 in
theorem d_Tree_rankOf {L : Nat} {xs : Nat → Int32} {Q : Option Value → ab_H → Prop} {v0 : Nat} {v1 : Int32} {g : g_S} {out : Int32} (e : M_Tree_rankOf v0 v1 g = some out) (c : Q (some (.int out)) (hp g)) : mw (ab_ext L xs) J_Tree_rankOf [.ref v0, .int v1] (hp g) Q := by
  unfold M_Tree_rankOf at e
  refine wp_p (j := J_Tree_rankOf) 1 (pc' := 1) (lv' := [(0, .ref v0), (1, .int v1)]) (st' := [.ref v0]) rfl ?_
  refine x_gQ e rfl rfl fd_10_0 rfl (fun z1 e => ?_)
  refine wp_p (j := J_Tree_rankOf) 1 (pc' := 5) (lv' := [(0, .ref v0), (1, .int v1)]) (st' := [.int v1, .ref z1]) rfl ?_
  refine x_aQ e rfl rfl rfl (fun z2 e => ?_)
  refine x_gI e rfl rfl fd_7_2 rfl (fun z3 e => ?_)
  refine wp_p (j := J_Tree_rankOf) 1 (pc' := 10) (lv' := [(0, .ref v0), (1, .int v1)]) (st' := [.int (-1), .int z3]) rfl ?_
  refine x_ne e rfl (fun e => ?_) (fun e => ?_)
  · refine wp_p (j := J_Tree_rankOf) 1 (pc' := 14) (lv' := [(0, .ref v0), (1, .int v1)]) (st' := [.int 0]) rfl ?_
    have e := Option.some.inj e; subst e; exact wp_iret (ty := .int) rfl rfl rfl c
  · refine wp_p (j := J_Tree_rankOf) 3 (pc' := 18) (lv' := [(2, .int 0), (0, .ref v0), (1, .int v1)]) (st' := [.ref v0]) rfl ?_
    refine x_gQ e rfl rfl fd_10_0 rfl (fun z4 e => ?_)
    refine wp_p (j := J_Tree_rankOf) 1 (pc' := 22) (lv' := [(2, .int 0), (0, .ref v0), (1, .int v1)]) (st' := [.ref v0, .ref z4]) rfl ?_
    refine x_gQ e rfl rfl fd_10_0 rfl (fun z5 e => ?_)
    refine wp_p (j := J_Tree_rankOf) 1 (pc' := 26) (lv' := [(2, .int 0), (0, .ref v0), (1, .int v1)]) (st' := [.int v1, .ref z5, .ref z4]) rfl ?_
    refine x_aQ e rfl rfl rfl (fun z6 e => ?_)
    refine x_gI e rfl rfl fd_7_2 rfl (fun z7 e => ?_)
    refine x_aQ e rfl rfl rfl (fun z8 e => ?_)
    refine x_gI e rfl rfl fd_7_3 rfl (fun z9 e => ?_)
    refine wp_p (j := J_Tree_rankOf) 1 (pc' := 35) (lv' := [(3, .int z9), (2, .int 0), (0, .ref v0), (1, .int v1)]) (st' := []) rfl ?_
    obtain ⟨z12, h11, e⟩ := bd e
    refine wp_lv (lv' := [(0, .ref v0), (1, .int v1), (2, .int 0), (3, .int z9)]) rfl ⟨rfl, rfl, rfl, rfl, trivial⟩ ?_
    refine l_Tree_rankOf_35 h11 ?_
    show wp (ab_ext L xs) J_Tree_rankOf 61 [(2, .int z12)] [] (hp g) Q
    refine wp_p (j := J_Tree_rankOf) 1 (pc' := 62) (lv' := [(2, .int z12)]) (st' := [.int z12]) rfl ?_
    have e := Option.some.inj e; subst e; exact wp_iret (ty := .int) rfl rfl rfl c
noncomputable def M_H_node (v0 : Nat) (v1 : Int32) (v2 : Int32) (g : g_S) : Option Int32 :=
  (vc g 111 v0 (M_H_isNode v0 v1 g)).bind fun z1 =>
  if z1 = 0 then
    some (-1)
  else
    (rQ g 111 v0 2).bind fun z2 =>
    (rQ g 110 z2 0).bind fun z3 =>
    (aQ g 5 z3 v1).bind fun z4 =>
    if v2 = 0 then
      (rI g 107 z4 0).bind fun z6 =>
      some z6
    else if v2 = 1 then
      (rI g 107 z4 2).bind fun z8 =>
      some z8
    else if v2 = 2 then
      (rI g 107 z4 6).bind fun z10 =>
      some z10
    else if v2 = 3 then
      (rQ g 111 v0 2).bind fun z12 =>
      (vc g 110 z12 (M_Tree_rankOf z12 v1 g)).bind fun z13 =>
      some z13
    else if v2 = 4 then
      (rI g 107 z4 12).bind fun z15 =>
      some z15
    else if v2 = 5 then
      (rI g 107 z4 0).bind fun z17 =>
      if z17 = 17 then
        (rQ g 107 z4 11).bind fun z18 =>
        (rI g 104 z18 2).bind fun z19 =>
        some z19
      else
        some 0
    else
      some (-1)
set_option maxRecDepth 20000 in
theorem d_H_node {L : Nat} {xs : Nat → Int32} {Q : Option Value → ab_H → Prop} {v0 : Nat} {v1 : Int32} {v2 : Int32} {g : g_S} {out : Int32} (e : M_H_node v0 v1 v2 g = some out) (c : Q (some (.int out)) (hp g)) : mw (ab_ext L xs) J_H_node [.ref v0, .int v1, .int v2] (hp g) Q := by
  unfold M_H_node at e
  refine wp_p (j := J_H_node) 2 (pc' := 2) (lv' := [(0, .ref v0), (1, .int v1), (2, .int v2)]) (st' := [.int v1, .ref v0]) rfl ?_
  refine x_cv1 (As := [.int v1]) (rest := []) Value.int e rfl rfl rfl rfl rfl rfl (fun h => d_H_isNode h ⟨rfl, rfl⟩) (fun z1 e => ?_)
  refine z_ne e rfl (fun e => ?_) (fun e => ?_)
  · refine wp_p (j := J_H_node) 1 (pc' := 9) (lv' := [(0, .ref v0), (1, .int v1), (2, .int v2)]) (st' := [.int (-1)]) rfl ?_
    have e := Option.some.inj e; subst e; exact wp_iret (ty := .int) rfl rfl rfl c
  · refine wp_p (j := J_H_node) 1 (pc' := 11) (lv' := [(0, .ref v0), (1, .int v1), (2, .int v2)]) (st' := [.ref v0]) rfl ?_
    refine x_gQ e rfl rfl fd_11_2 rfl (fun z2 e => ?_)
    refine x_gQ e rfl rfl fd_10_0 rfl (fun z3 e => ?_)
    refine wp_p (j := J_H_node) 1 (pc' := 18) (lv' := [(0, .ref v0), (1, .int v1), (2, .int v2)]) (st' := [.int v1, .ref z3]) rfl ?_
    refine x_aQ e rfl rfl rfl (fun z4 e => ?_)
    refine wp_p (j := J_H_node) 2 (pc' := 21) (lv' := [(3, .ref z4), (0, .ref v0), (1, .int v1), (2, .int v2)]) (st' := [.int v2]) rfl ?_
    refine x_if e (fun h5 e => ?_) (fun h5 e => ?_)
    · refine x_sw (cst := 0) (pc' := 60) (rest := []) h5 rfl rfl rfl ?_
      refine wp_p (j := J_H_node) 1 (pc' := 61) (lv' := [(3, .ref z4), (0, .ref v0), (1, .int v1), (2, .int v2)]) (st' := [.ref z4]) rfl ?_
      refine x_gI e rfl rfl fd_7_0 rfl (fun z6 e => ?_)
      have e := Option.some.inj e; subst e; exact wp_iret (ty := .int) rfl rfl rfl c
    refine x_if e (fun h7 e => ?_) (fun h7 e => ?_)
    · refine x_sw (cst := 1) (pc' := 65) (rest := []) h7 rfl rfl rfl ?_
      refine wp_p (j := J_H_node) 1 (pc' := 66) (lv' := [(3, .ref z4), (0, .ref v0), (1, .int v1), (2, .int v2)]) (st' := [.ref z4]) rfl ?_
      refine x_gI e rfl rfl fd_7_2 rfl (fun z8 e => ?_)
      have e := Option.some.inj e; subst e; exact wp_iret (ty := .int) rfl rfl rfl c
    refine x_if e (fun h9 e => ?_) (fun h9 e => ?_)
    · refine x_sw (cst := 2) (pc' := 70) (rest := []) h9 rfl rfl rfl ?_
      refine wp_p (j := J_H_node) 1 (pc' := 71) (lv' := [(3, .ref z4), (0, .ref v0), (1, .int v1), (2, .int v2)]) (st' := [.ref z4]) rfl ?_
      refine x_gI e rfl rfl fd_7_6 rfl (fun z10 e => ?_)
      have e := Option.some.inj e; subst e; exact wp_iret (ty := .int) rfl rfl rfl c
    refine x_if e (fun h11 e => ?_) (fun h11 e => ?_)
    · refine x_sw (cst := 3) (pc' := 75) (rest := []) h11 rfl rfl rfl ?_
      refine wp_p (j := J_H_node) 1 (pc' := 76) (lv' := [(3, .ref z4), (0, .ref v0), (1, .int v1), (2, .int v2)]) (st' := [.ref v0]) rfl ?_
      refine x_gQ e rfl rfl fd_11_2 rfl (fun z12 e => ?_)
      refine wp_p (j := J_H_node) 1 (pc' := 80) (lv' := [(3, .ref z4), (0, .ref v0), (1, .int v1), (2, .int v2)]) (st' := [.int v1, .ref z12]) rfl ?_
      refine x_cv1 (As := [.int v1]) (rest := []) Value.int e rfl rfl rfl rfl rfl rfl (fun h => d_Tree_rankOf h ⟨rfl, rfl⟩) (fun z13 e => ?_)
      have e := Option.some.inj e; subst e; exact wp_iret (ty := .int) rfl rfl rfl c
    refine x_if e (fun h14 e => ?_) (fun h14 e => ?_)
    · refine x_sw (cst := 4) (pc' := 84) (rest := []) h14 rfl rfl rfl ?_
      refine wp_p (j := J_H_node) 1 (pc' := 85) (lv' := [(3, .ref z4), (0, .ref v0), (1, .int v1), (2, .int v2)]) (st' := [.ref z4]) rfl ?_
      refine x_gI e rfl rfl fd_7_12 rfl (fun z15 e => ?_)
      have e := Option.some.inj e; subst e; exact wp_iret (ty := .int) rfl rfl rfl c
    refine x_if e (fun h16 e => ?_) (fun h16 e => ?_)
    · refine x_sw (cst := 5) (pc' := 89) (rest := []) h16 rfl rfl rfl ?_
      refine wp_p (j := J_H_node) 1 (pc' := 90) (lv' := [(3, .ref z4), (0, .ref v0), (1, .int v1), (2, .int v2)]) (st' := [.ref z4]) rfl ?_
      refine x_gI e rfl rfl fd_7_0 rfl (fun z17 e => ?_)
      refine wp_p (j := J_H_node) 1 (pc' := 95) (lv' := [(3, .ref z4), (0, .ref v0), (1, .int v1), (2, .int v2)]) (st' := [.int 17, .int z17]) rfl ?_
      refine x_ne e rfl (fun e => ?_) (fun e => ?_)
      · refine wp_p (j := J_H_node) 1 (pc' := 99) (lv' := [(3, .ref z4), (0, .ref v0), (1, .int v1), (2, .int v2)]) (st' := [.ref z4]) rfl ?_
        refine x_gQ e rfl rfl fd_7_11 rfl (fun z18 e => ?_)
        refine x_gI e rfl rfl fd_4_2 rfl (fun z19 e => ?_)
        refine wp_p (j := J_H_node) 1 (pc' := 109) (lv' := [(3, .ref z4), (0, .ref v0), (1, .int v1), (2, .int v2)]) (st' := [.int z19]) rfl ?_
        have e := Option.some.inj e; subst e; exact wp_iret (ty := .int) rfl rfl rfl c
      · refine wp_p (j := J_H_node) 1 (pc' := 109) (lv' := [(3, .ref z4), (0, .ref v0), (1, .int v1), (2, .int v2)]) (st' := [.int 0]) rfl ?_
        have e := Option.some.inj e; subst e; exact wp_iret (ty := .int) rfl rfl rfl c
    refine wp_b (pc' := 110) (st' := []) rfl rfl ((ts_d (x := v2) (lo := 0) 6 rfl ⟨h5, h7, h9, h11, h14, h16, trivial⟩).trans rfl) ?_
    refine wp_p (j := J_H_node) 1 (pc' := 111) (lv' := [(3, .ref z4), (0, .ref v0), (1, .int v1), (2, .int v2)]) (st' := [.int (-1)]) rfl ?_
    have e := Option.some.inj e; subst e; exact wp_iret (ty := .int) rfl rfl rfl c
def cL_Tree_kidAt_13 (L : Nat) (xs : Nat → Int32) (Q : Option Value → ab_H → Prop) (v0 : Nat) (g : g_S) (out : (Int32 × Int32) ⊕ (Int32)) : Prop := match out with
  | .inl s => wp (ab_ext L xs) J_Tree_kidAt 13 [(0, .ref v0), (3, .int s.1), (4, .int s.2)] [] (hp g) Q
  | .inr s => wp (ab_ext L xs) J_Tree_kidAt 39 [(3, .int s)] [] (hp g) Q
noncomputable def b_Tree_kidAt_13 (v0 : Nat) (v3 : Int32) (v4 : Int32) (g : g_S) : Option ((Int32 × Int32) ⊕ (Int32)) :=
  if 0 < v4 then
    if v3 = (-1) then
      some (.inr v3)
    else
      (rQ g 110 v0 0).bind fun z1 =>
      (aQ g 5 z1 v3).bind fun z2 =>
      (rI g 107 z2 5).bind fun z3 =>
      some (.inl (z3, v4 + (-1)))
  else
    some (.inr v3)
set_option maxRecDepth 20000 in
theorem y_Tree_kidAt_13 {L : Nat} {xs : Nat → Int32} {Q : Option Value → ab_H → Prop} {v0 : Nat} {v3 : Int32} {v4 : Int32} {g : g_S} {out : (Int32 × Int32) ⊕ (Int32)} (e : b_Tree_kidAt_13 v0 v3 v4 g = some out) (c : cL_Tree_kidAt_13 L xs Q v0 g out) : wp (ab_ext L xs) J_Tree_kidAt 13 [(0, .ref v0), (3, .int v3), (4, .int v4)] [] (hp g) Q := by
  unfold b_Tree_kidAt_13 at e
  refine wp_p (j := J_Tree_kidAt) 1 (pc' := 15) (lv' := [(0, .ref v0), (3, .int v3), (4, .int v4)]) (st' := [.int v4]) rfl ?_
  refine z_le e rfl (fun e => ?_) (fun e => ?_)
  · refine wp_p (j := J_Tree_kidAt) 2 (pc' := 20) (lv' := [(0, .ref v0), (3, .int v3), (4, .int v4)]) (st' := [.int (-1), .int v3]) rfl ?_
    refine x_eq e rfl (fun e => ?_) (fun e => ?_)
    · have e := Option.some.inj e; subst e; exact wp_lv (lv' := [(3, .int v3)]) rfl ⟨rfl, trivial⟩ c
    · refine wp_p (j := J_Tree_kidAt) 1 (pc' := 24) (lv' := [(0, .ref v0), (3, .int v3), (4, .int v4)]) (st' := [.ref v0]) rfl ?_
      refine x_gQ e rfl rfl fd_10_0 rfl (fun z1 e => ?_)
      refine wp_p (j := J_Tree_kidAt) 1 (pc' := 28) (lv' := [(0, .ref v0), (3, .int v3), (4, .int v4)]) (st' := [.int v3, .ref z1]) rfl ?_
      refine x_aQ e rfl rfl rfl (fun z2 e => ?_)
      refine x_gI e rfl rfl fd_7_5 rfl (fun z3 e => ?_)
      refine wp_p (j := J_Tree_kidAt) 3 (pc' := 13) (lv' := [(4, .int (v4 + (-1))), (3, .int z3), (0, .ref v0)]) (st' := []) rfl ?_
      have e := Option.some.inj e; subst e; exact wp_lv (lv' := [(0, .ref v0), (3, .int z3), (4, .int (v4 + (-1)))]) rfl ⟨rfl, rfl, rfl, trivial⟩ c
  · have e := Option.some.inj e; subst e; exact wp_lv (lv' := [(3, .int v3)]) rfl ⟨rfl, trivial⟩ c
noncomputable def L_Tree_kidAt_13 (v0 : Nat) (v3 : Int32) (v4 : Int32) (g : g_S) : Option (Int32) := it (fun s : Int32 × Int32 => b_Tree_kidAt_13 v0 s.1 s.2 g) (v3, v4)
theorem l_Tree_kidAt_13 {L : Nat} {xs : Nat → Int32} {Q : Option Value → ab_H → Prop} {v0 : Nat} {v3 : Int32} {v4 : Int32} {g : g_S} {r : Int32} (e : L_Tree_kidAt_13 v0 v3 v4 g = some r) (c : cL_Tree_kidAt_13 L xs Q v0 g (.inr r)) : wp (ab_ext L xs) J_Tree_kidAt 13 [(0, .ref v0), (3, .int v3), (4, .int v4)] [] (hp g) Q :=
  it_wp (P := fun s : Int32 × Int32 => wp (ab_ext L xs) J_Tree_kidAt 13 [(0, .ref v0), (3, .int s.1), (4, .int s.2)] [] (hp g) Q) (E := fun r => cL_Tree_kidAt_13 L xs Q v0 g (.inr r)) (fun s out e c => y_Tree_kidAt_13 e (by cases out <;> exact c)) e c
theorem L_Tree_kidAt_13_eq (v0 : Nat) (v3 : Int32) (v4 : Int32) (g : g_S) : L_Tree_kidAt_13 v0 v3 v4 g = itc (b_Tree_kidAt_13 v0 v3 v4 g) (fun s => L_Tree_kidAt_13 v0 s.1 s.2 g) := it_eq2 (fun s : Int32 × Int32 => b_Tree_kidAt_13 v0 s.1 s.2 g) (v3, v4)
noncomputable def M_Tree_kidAt (v0 : Nat) (v1 : Int32) (v2 : Int32) (g : g_S) : Option Int32 :=
  (rQ g 110 v0 0).bind fun z1 =>
  (aQ g 5 z1 v1).bind fun z2 =>
  (rI g 107 z2 3).bind fun z3 =>
  (L_Tree_kidAt_13 v0 z3 v2 g).bind <| fun z6 =>
  some z6
set_option maxRecDepth 20000 in
theorem d_Tree_kidAt {L : Nat} {xs : Nat → Int32} {Q : Option Value → ab_H → Prop} {v0 : Nat} {v1 : Int32} {v2 : Int32} {g : g_S} {out : Int32} (e : M_Tree_kidAt v0 v1 v2 g = some out) (c : Q (some (.int out)) (hp g)) : mw (ab_ext L xs) J_Tree_kidAt [.ref v0, .int v1, .int v2] (hp g) Q := by
  unfold M_Tree_kidAt at e
  refine wp_p (j := J_Tree_kidAt) 1 (pc' := 1) (lv' := [(0, .ref v0), (1, .int v1), (2, .int v2)]) (st' := [.ref v0]) rfl ?_
  refine x_gQ e rfl rfl fd_10_0 rfl (fun z1 e => ?_)
  refine wp_p (j := J_Tree_kidAt) 1 (pc' := 5) (lv' := [(0, .ref v0), (1, .int v1), (2, .int v2)]) (st' := [.int v1, .ref z1]) rfl ?_
  refine x_aQ e rfl rfl rfl (fun z2 e => ?_)
  refine x_gI e rfl rfl fd_7_3 rfl (fun z3 e => ?_)
  refine wp_p (j := J_Tree_kidAt) 3 (pc' := 13) (lv' := [(4, .int v2), (3, .int z3), (0, .ref v0), (1, .int v1), (2, .int v2)]) (st' := []) rfl ?_
  obtain ⟨z6, h5, e⟩ := bd e
  refine wp_lv (lv' := [(0, .ref v0), (3, .int z3), (4, .int v2)]) rfl ⟨rfl, rfl, rfl, trivial⟩ ?_
  refine l_Tree_kidAt_13 h5 ?_
  show wp (ab_ext L xs) J_Tree_kidAt 39 [(3, .int z6)] [] (hp g) Q
  refine wp_p (j := J_Tree_kidAt) 1 (pc' := 40) (lv' := [(3, .int z6)]) (st' := [.int z6]) rfl ?_
  have e := Option.some.inj e; subst e; exact wp_iret (ty := .int) rfl rfl rfl c
noncomputable def M_H_kid (v0 : Nat) (v1 : Int32) (v2 : Int32) (g : g_S) : Option Int32 :=
  (vc g 111 v0 (M_H_isNode v0 v1 g)).bind fun z1 =>
  if z1 = 0 then
    some (-1)
  else
    if v2 < 0 then
      some (-1)
    else
      (rQ g 111 v0 2).bind fun z2 =>
      (vc g 110 z2 (M_Tree_kidAt z2 v1 v2 g)).bind fun z3 =>
      some z3
set_option maxRecDepth 20000 in
theorem d_H_kid {L : Nat} {xs : Nat → Int32} {Q : Option Value → ab_H → Prop} {v0 : Nat} {v1 : Int32} {v2 : Int32} {g : g_S} {out : Int32} (e : M_H_kid v0 v1 v2 g = some out) (c : Q (some (.int out)) (hp g)) : mw (ab_ext L xs) J_H_kid [.ref v0, .int v1, .int v2] (hp g) Q := by
  unfold M_H_kid at e
  refine wp_p (j := J_H_kid) 2 (pc' := 2) (lv' := [(0, .ref v0), (1, .int v1), (2, .int v2)]) (st' := [.int v1, .ref v0]) rfl ?_
  refine x_cv1 (As := [.int v1]) (rest := []) Value.int e rfl rfl rfl rfl rfl rfl (fun h => d_H_isNode h ⟨rfl, rfl⟩) (fun z1 e => ?_)
  refine z_eq e rfl (fun e => ?_) (fun e => ?_)
  · refine wp_p (j := J_H_kid) 1 (pc' := 25) (lv' := [(0, .ref v0), (1, .int v1), (2, .int v2)]) (st' := [.int (-1)]) rfl ?_
    have e := Option.some.inj e; subst e; exact wp_iret (ty := .int) rfl rfl rfl c
  · refine wp_p (j := J_H_kid) 1 (pc' := 9) (lv' := [(0, .ref v0), (1, .int v1), (2, .int v2)]) (st' := [.int v2]) rfl ?_
    refine z_lt e rfl (fun e => ?_) (fun e => ?_)
    · refine wp_p (j := J_H_kid) 1 (pc' := 25) (lv' := [(0, .ref v0), (1, .int v1), (2, .int v2)]) (st' := [.int (-1)]) rfl ?_
      have e := Option.some.inj e; subst e; exact wp_iret (ty := .int) rfl rfl rfl c
    · refine wp_p (j := J_H_kid) 1 (pc' := 13) (lv' := [(0, .ref v0), (1, .int v1), (2, .int v2)]) (st' := [.ref v0]) rfl ?_
      refine x_gQ e rfl rfl fd_11_2 rfl (fun z2 e => ?_)
      refine wp_p (j := J_H_kid) 2 (pc' := 18) (lv' := [(0, .ref v0), (1, .int v1), (2, .int v2)]) (st' := [.int v2, .int v1, .ref z2]) rfl ?_
      refine x_cv1 (As := [.int v1, .int v2]) (rest := []) Value.int e rfl rfl rfl rfl rfl rfl (fun h => d_Tree_kidAt h ⟨rfl, rfl⟩) (fun z3 e => ?_)
      refine wp_p (j := J_H_kid) 1 (pc' := 25) (lv' := [(0, .ref v0), (1, .int v1), (2, .int v2)]) (st' := [.int z3]) rfl ?_
      have e := Option.some.inj e; subst e; exact wp_iret (ty := .int) rfl rfl rfl c
noncomputable def M_H_name (v0 : Nat) (v1 : Int32) (g : g_S) : Option (Int32 × g_S) :=
  (vc g 111 v0 (M_H_isNode v0 v1 g)).bind fun z1 =>
  if z1 = 0 then
    some ((-1), g)
  else
    (rQ g 111 v0 2).bind fun z2 =>
    (rQ g 110 z2 0).bind fun z3 =>
    (aQ g 5 z3 v1).bind fun z4 =>
    (rI g 107 z4 0).bind fun z5 =>
    if z5 = 17 then
      (rQ g 107 z4 11).bind fun z6 =>
      c2 (vc g 111 v0 (M_H_showBytes v0 z6 g)) fun z7 g8 =>
      some (z7, g8)
    else
      (rQ g 111 v0 1).bind fun z9 =>
      (vc g 104 z9 (M_Bytes_clear z9 g)).bind fun g10 =>
      (rQ g10 111 v0 1).bind fun z11 =>
      (rL g10 107 z4 1).bind fun z12 =>
      (vc g10 104 z11 (M_Bytes_addPacked z11 z12 g10)).bind fun g13 =>
      (rQ g13 111 v0 1).bind fun z14 =>
      (rI g13 104 z14 2).bind fun z15 =>
      some (z15, g13)
set_option maxRecDepth 20000 in
theorem d_H_name {L : Nat} {xs : Nat → Int32} {Q : Option Value → ab_H → Prop} {v0 : Nat} {v1 : Int32} {g : g_S} {out : Int32 × g_S} (e : M_H_name v0 v1 g = some out) (c : Q (some (.int out.1)) (hp out.2)) : mw (ab_ext L xs) J_H_name [.ref v0, .int v1] (hp g) Q := by
  unfold M_H_name at e
  refine wp_p (j := J_H_name) 2 (pc' := 2) (lv' := [(0, .ref v0), (1, .int v1)]) (st' := [.int v1, .ref v0]) rfl ?_
  refine x_cv1 (As := [.int v1]) (rest := []) Value.int e rfl rfl rfl rfl rfl rfl (fun h => d_H_isNode h ⟨rfl, rfl⟩) (fun z1 e => ?_)
  refine z_ne e rfl (fun e => ?_) (fun e => ?_)
  · refine wp_p (j := J_H_name) 1 (pc' := 9) (lv' := [(0, .ref v0), (1, .int v1)]) (st' := [.int (-1)]) rfl ?_
    have e := Option.some.inj e; subst e; exact wp_iret (ty := .int) rfl rfl rfl c
  · refine wp_p (j := J_H_name) 1 (pc' := 11) (lv' := [(0, .ref v0), (1, .int v1)]) (st' := [.ref v0]) rfl ?_
    refine x_gQ e rfl rfl fd_11_2 rfl (fun z2 e => ?_)
    refine x_gQ e rfl rfl fd_10_0 rfl (fun z3 e => ?_)
    refine wp_p (j := J_H_name) 1 (pc' := 18) (lv' := [(0, .ref v0), (1, .int v1)]) (st' := [.int v1, .ref z3]) rfl ?_
    refine x_aQ e rfl rfl rfl (fun z4 e => ?_)
    refine wp_p (j := J_H_name) 2 (pc' := 21) (lv' := [(2, .ref z4), (0, .ref v0), (1, .int v1)]) (st' := [.ref z4]) rfl ?_
    refine x_gI e rfl rfl fd_7_0 rfl (fun z5 e => ?_)
    refine wp_p (j := J_H_name) 1 (pc' := 26) (lv' := [(2, .ref z4), (0, .ref v0), (1, .int v1)]) (st' := [.int 17, .int z5]) rfl ?_
    refine x_ne e rfl (fun e => ?_) (fun e => ?_)
    · refine wp_p (j := J_H_name) 2 (pc' := 31) (lv' := [(2, .ref z4), (0, .ref v0), (1, .int v1)]) (st' := [.ref z4, .ref v0]) rfl ?_
      refine x_gQ e rfl rfl fd_7_11 rfl (fun z6 e => ?_)
      refine x_cv2 (As := [.ref z6]) (rest := []) Value.int e rfl rfl rfl rfl rfl rfl (fun h => d_H_showBytes h ⟨rfl, rfl⟩) (fun z7 g8 e => ?_)
      have e := Option.some.inj e; subst e; exact wp_iret (ty := .int) rfl rfl rfl c
    · refine wp_p (j := J_H_name) 1 (pc' := 39) (lv' := [(2, .ref z4), (0, .ref v0), (1, .int v1)]) (st' := [.ref v0]) rfl ?_
      refine x_gQ e rfl rfl fd_11_1 rfl (fun z9 e => ?_)
      refine x_cv0 (As := []) (rest := []) e rfl rfl rfl rfl rfl rfl (fun h => d_Bytes_clear h ⟨rfl, rfl⟩) (fun g10 e => ?_)
      refine wp_p (j := J_H_name) 1 (pc' := 46) (lv' := [(2, .ref z4), (0, .ref v0), (1, .int v1)]) (st' := [.ref v0]) rfl ?_
      refine x_gQ e rfl rfl fd_11_1 rfl (fun z11 e => ?_)
      refine wp_p (j := J_H_name) 1 (pc' := 50) (lv' := [(2, .ref z4), (0, .ref v0), (1, .int v1)]) (st' := [.ref z4, .ref z11]) rfl ?_
      refine x_gL e rfl rfl fd_7_1 rfl (fun z12 e => ?_)
      refine x_cv0 (As := [.long z12]) (rest := []) e rfl rfl rfl rfl rfl rfl (fun h => d_Bytes_addPacked h ⟨rfl, rfl⟩) (fun g13 e => ?_)
      refine wp_p (j := J_H_name) 1 (pc' := 57) (lv' := [(2, .ref z4), (0, .ref v0), (1, .int v1)]) (st' := [.ref v0]) rfl ?_
      refine x_gQ e rfl rfl fd_11_1 rfl (fun z14 e => ?_)
      refine x_gI e rfl rfl fd_4_2 rfl (fun z15 e => ?_)
      have e := Option.some.inj e; subst e; exact wp_iret (ty := .int) rfl rfl rfl c
noncomputable def M_H_isElement (v0 : Nat) (v1 : Int32) (g : g_S) : Option Int32 :=
  (vc g 111 v0 (M_H_isNode v0 v1 g)).bind fun z1 =>
  if z1 = 0 then
    some 0
  else
    (rQ g 111 v0 2).bind fun z2 =>
    (rQ g 110 z2 0).bind fun z3 =>
    (aQ g 5 z3 v1).bind fun z4 =>
    (rI g 107 z4 0).bind fun z5 =>
    if z5 = 17 then
      some 0
    else
      some 1
set_option maxRecDepth 20000 in
theorem d_H_isElement {L : Nat} {xs : Nat → Int32} {Q : Option Value → ab_H → Prop} {v0 : Nat} {v1 : Int32} {g : g_S} {out : Int32} (e : M_H_isElement v0 v1 g = some out) (c : Q (some (.int out)) (hp g)) : mw (ab_ext L xs) J_H_isElement [.ref v0, .int v1] (hp g) Q := by
  unfold M_H_isElement at e
  refine wp_p (j := J_H_isElement) 2 (pc' := 2) (lv' := [(0, .ref v0), (1, .int v1)]) (st' := [.int v1, .ref v0]) rfl ?_
  refine x_cv1 (As := [.int v1]) (rest := []) Value.int e rfl rfl rfl rfl rfl rfl (fun h => d_H_isNode h ⟨rfl, rfl⟩) (fun z1 e => ?_)
  refine z_eq e rfl (fun e => ?_) (fun e => ?_)
  · refine wp_p (j := J_H_isElement) 1 (pc' := 30) (lv' := [(0, .ref v0), (1, .int v1)]) (st' := [.int 0]) rfl ?_
    have e := Option.some.inj e; subst e; exact wp_iret (ty := .boolean) rfl rfl (by decide) c
  · refine wp_p (j := J_H_isElement) 1 (pc' := 9) (lv' := [(0, .ref v0), (1, .int v1)]) (st' := [.ref v0]) rfl ?_
    refine x_gQ e rfl rfl fd_11_2 rfl (fun z2 e => ?_)
    refine x_gQ e rfl rfl fd_10_0 rfl (fun z3 e => ?_)
    refine wp_p (j := J_H_isElement) 1 (pc' := 16) (lv' := [(0, .ref v0), (1, .int v1)]) (st' := [.int v1, .ref z3]) rfl ?_
    refine x_aQ e rfl rfl rfl (fun z4 e => ?_)
    refine x_gI e rfl rfl fd_7_0 rfl (fun z5 e => ?_)
    refine wp_p (j := J_H_isElement) 1 (pc' := 22) (lv' := [(0, .ref v0), (1, .int v1)]) (st' := [.int 17, .int z5]) rfl ?_
    refine x_eq e rfl (fun e => ?_) (fun e => ?_)
    · refine wp_p (j := J_H_isElement) 1 (pc' := 30) (lv' := [(0, .ref v0), (1, .int v1)]) (st' := [.int 0]) rfl ?_
      have e := Option.some.inj e; subst e; exact wp_iret (ty := .boolean) rfl rfl (by decide) c
    · refine wp_p (j := J_H_isElement) 2 (pc' := 30) (lv' := [(0, .ref v0), (1, .int v1)]) (st' := [.int 1]) rfl ?_
      have e := Option.some.inj e; subst e; exact wp_iret (ty := .boolean) rfl rfl (by decide) c
