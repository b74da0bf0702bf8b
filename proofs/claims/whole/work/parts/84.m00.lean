/-! methods as functions, group 0 -/
noncomputable def M_Bytes_init (v0 : Nat) (v1 : Int32) (g : g_S) : Option g_S :=
  (wI g 104 v0 0 v1).bind fun g1 =>
  c2 (nA g1 1 16) fun z2 g3 =>
  (wR g3 104 v0 1 (some z2)).bind fun g4 =>
  some g4
set_option maxRecDepth 20000 in
theorem d_Bytes_init {L : Nat} {xs : Nat → Int32} {Q : Option Value → ab_H → Prop} {v0 : Nat} {v1 : Int32} {g : g_S} {out : g_S} (e : M_Bytes_init v0 v1 g = some out) (c : Q none (hp out)) : mw (ab_ext L xs) J_Bytes_init [.ref v0, .int v1] (hp g) Q := by
  unfold M_Bytes_init at e
  refine wp_p (j := J_Bytes_init) 1 (pc' := 1) (lv' := [(0, .ref v0), (1, .int v1)]) (st' := [.ref v0]) rfl ?_
  refine wp_obj rfl (Nat.le_of_ble_eq_true rfl) ?_
  refine wp_p (j := J_Bytes_init) 2 (pc' := 6) (lv' := [(0, .ref v0), (1, .int v1)]) (st' := [.int v1, .ref v0]) rfl ?_
  refine x_pI e rfl rfl fw_4_0 rfl (fun g1 e => ?_)
  refine wp_p (j := J_Bytes_init) 2 (pc' := 12) (lv' := [(0, .ref v0), (1, .int v1)]) (st' := [.int 16, .ref v0]) rfl ?_
  refine x_nA e rfl rfl rfl (fun z2 g3 e => ?_)
  refine x_pR (r := (some z2)) e rfl rfl fd_4_1 rfl (fun g4 e => ?_)
  have e := Option.some.inj e; subst e; exact wp_vret rfl rfl c
def cL_Node_init_60 (L : Nat) (xs : Nat → Int32) (Q : Option Value → ab_H → Prop) (v0 : Nat) (out : (Int32 × g_S) ⊕ (g_S)) : Prop := match out with
  | .inl s => wp (ab_ext L xs) J_Node_init 60 [(0, .ref v0), (1, .int s.1)] [] (hp s.2) Q
  | .inr s => wp (ab_ext L xs) J_Node_init 86 [] [] (hp s) Q
noncomputable def b_Node_init_60 (v0 : Nat) (v1 : Int32) (g : g_S) : Option ((Int32 × g_S) ⊕ (g_S)) :=
  if v1 < 4 then
    (rQ g 107 v0 14).bind fun z1 =>
    c2 (nO g 104) fun z2 g3 =>
    (M_Bytes_init z2 60 g3).bind fun g4 =>
    (sQ g4 4 z1 v1 z2).bind fun g5 =>
    some (.inl (v1 + 1, g5))
  else
    some (.inr g)
set_option maxRecDepth 20000 in
theorem y_Node_init_60 {L : Nat} {xs : Nat → Int32} {Q : Option Value → ab_H → Prop} {v0 : Nat} {v1 : Int32} {g : g_S} {out : (Int32 × g_S) ⊕ (g_S)} (e : b_Node_init_60 v0 v1 g = some out) (c : cL_Node_init_60 L xs Q v0 out) : wp (ab_ext L xs) J_Node_init 60 [(0, .ref v0), (1, .int v1)] [] (hp g) Q := by
  unfold b_Node_init_60 at e
  refine wp_p (j := J_Node_init) 2 (pc' := 62) (lv' := [(0, .ref v0), (1, .int v1)]) (st' := [.int 4, .int v1]) rfl ?_
  refine x_ge e rfl (fun e => ?_) (fun e => ?_)
  · refine wp_p (j := J_Node_init) 1 (pc' := 66) (lv' := [(0, .ref v0), (1, .int v1)]) (st' := [.ref v0]) rfl ?_
    refine x_gQ e rfl rfl fd_7_14 rfl (fun z1 e => ?_)
    refine wp_p (j := J_Node_init) 1 (pc' := 70) (lv' := [(0, .ref v0), (1, .int v1)]) (st' := [.int v1, .ref z1]) rfl ?_
    refine x_nO e rfl rfl rfl (fun z2 g3 e => ?_)
    refine wp_p (j := J_Node_init) 2 (pc' := 76) (lv' := [(0, .ref v0), (1, .int v1)]) (st' := [.int 60, .ref z2, .ref z2, .int v1, .ref z1]) rfl ?_
    refine x_ci0 (As := [.int 60]) (rest := [.ref z2, .int v1, .ref z1]) e rfl rfl rfl rfl rfl (fun h => d_Bytes_init h ⟨rfl, rfl⟩) (fun g4 e => ?_)
    refine x_sQ e rfl rfl rfl (fun g5 e => ?_)
    refine wp_p (j := J_Node_init) 2 (pc' := 60) (lv' := [(1, .int (v1 + 1)), (0, .ref v0)]) (st' := []) rfl ?_
    have e := Option.some.inj e; subst e; exact wp_lv (lv' := [(0, .ref v0), (1, .int (v1 + 1))]) rfl ⟨rfl, rfl, trivial⟩ c
  · have e := Option.some.inj e; subst e; exact wp_lv (lv' := []) rfl trivial c
noncomputable def L_Node_init_60 (v0 : Nat) (v1 : Int32) (g : g_S) : Option (g_S) := it (fun s : Int32 × g_S => b_Node_init_60 v0 s.1 s.2) (v1, g)
theorem l_Node_init_60 {L : Nat} {xs : Nat → Int32} {Q : Option Value → ab_H → Prop} {v0 : Nat} {v1 : Int32} {g : g_S} {r : g_S} (e : L_Node_init_60 v0 v1 g = some r) (c : cL_Node_init_60 L xs Q v0 (.inr r)) : wp (ab_ext L xs) J_Node_init 60 [(0, .ref v0), (1, .int v1)] [] (hp g) Q :=
  it_wp (P := fun s : Int32 × g_S => wp (ab_ext L xs) J_Node_init 60 [(0, .ref v0), (1, .int s.1)] [] (hp s.2) Q) (E := fun r => cL_Node_init_60 L xs Q v0 (.inr r)) (fun s out e c => y_Node_init_60 e (by cases out <;> exact c)) e c
theorem L_Node_init_60_eq (v0 : Nat) (v1 : Int32) (g : g_S) : L_Node_init_60 v0 v1 g = itc (b_Node_init_60 v0 v1 g) (fun s => L_Node_init_60 v0 s.1 s.2) := it_eq2 (fun s : Int32 × g_S => b_Node_init_60 v0 s.1 s.2) (v1, g)
noncomputable def M_Node_init (v0 : Nat) (g : g_S) : Option g_S :=
  (wI g 107 v0 0 (-1)).bind fun g1 =>
  (wI g1 107 v0 2 (-1)).bind fun g2 =>
  (wI g2 107 v0 3 (-1)).bind fun g3 =>
  (wI g3 107 v0 4 (-1)).bind fun g4 =>
  (wI g4 107 v0 5 (-1)).bind fun g5 =>
  c2 (nO g5 104) fun z6 g7 =>
  (M_Bytes_init z6 400 g7).bind fun g8 =>
  (wR g8 107 v0 11 (some z6)).bind fun g9 =>
  c2 (nA g9 3 4) fun z10 g11 =>
  (wR g11 107 v0 13 (some z10)).bind fun g12 =>
  c2 (nA g12 4 4) fun z13 g14 =>
  (wR g14 107 v0 14 (some z13)).bind fun g15 =>
  (L_Node_init_60 v0 0 g15).bind <| fun g18 =>
  some g18
set_option maxRecDepth 20000 in
theorem d_Node_init {L : Nat} {xs : Nat → Int32} {Q : Option Value → ab_H → Prop} {v0 : Nat} {g : g_S} {out : g_S} (e : M_Node_init v0 g = some out) (c : Q none (hp out)) : mw (ab_ext L xs) J_Node_init [.ref v0] (hp g) Q := by
  unfold M_Node_init at e
  refine wp_p (j := J_Node_init) 1 (pc' := 1) (lv' := [(0, .ref v0)]) (st' := [.ref v0]) rfl ?_
  refine wp_obj rfl (Nat.le_of_ble_eq_true rfl) ?_
  refine wp_p (j := J_Node_init) 2 (pc' := 6) (lv' := [(0, .ref v0)]) (st' := [.int (-1), .ref v0]) rfl ?_
  refine x_pI e rfl rfl fw_7_0 rfl (fun g1 e => ?_)
  refine wp_p (j := J_Node_init) 2 (pc' := 11) (lv' := [(0, .ref v0)]) (st' := [.int (-1), .ref v0]) rfl ?_
  refine x_pI e rfl rfl fw_7_2 rfl (fun g2 e => ?_)
  refine wp_p (j := J_Node_init) 2 (pc' := 16) (lv' := [(0, .ref v0)]) (st' := [.int (-1), .ref v0]) rfl ?_
  refine x_pI e rfl rfl fw_7_3 rfl (fun g3 e => ?_)
  refine wp_p (j := J_Node_init) 2 (pc' := 21) (lv' := [(0, .ref v0)]) (st' := [.int (-1), .ref v0]) rfl ?_
  refine x_pI e rfl rfl fw_7_4 rfl (fun g4 e => ?_)
  refine wp_p (j := J_Node_init) 2 (pc' := 26) (lv' := [(0, .ref v0)]) (st' := [.int (-1), .ref v0]) rfl ?_
  refine x_pI e rfl rfl fw_7_5 rfl (fun g5 e => ?_)
  refine wp_p (j := J_Node_init) 1 (pc' := 30) (lv' := [(0, .ref v0)]) (st' := [.ref v0]) rfl ?_
  refine x_nO e rfl rfl rfl (fun z6 g7 e => ?_)
  refine wp_p (j := J_Node_init) 2 (pc' := 37) (lv' := [(0, .ref v0)]) (st' := [.int 400, .ref z6, .ref z6, .ref v0]) rfl ?_
  refine x_ci0 (As := [.int 400]) (rest := [.ref z6, .ref v0]) e rfl rfl rfl rfl rfl (fun h => d_Bytes_init h ⟨rfl, rfl⟩) (fun g8 e => ?_)
  refine x_pR (r := (some z6)) e rfl rfl fd_7_11 rfl (fun g9 e => ?_)
  refine wp_p (j := J_Node_init) 2 (pc' := 45) (lv' := [(0, .ref v0)]) (st' := [.int 4, .ref v0]) rfl ?_
  refine x_nA e rfl rfl rfl (fun z10 g11 e => ?_)
  refine x_pR (r := (some z10)) e rfl rfl fd_7_13 rfl (fun g12 e => ?_)
  refine wp_p (j := J_Node_init) 2 (pc' := 52) (lv' := [(0, .ref v0)]) (st' := [.int 4, .ref v0]) rfl ?_
  refine x_nQ e rfl rfl rfl (fun z13 g14 e => ?_)
  refine x_pR (r := (some z13)) e rfl rfl fd_7_14 rfl (fun g15 e => ?_)
  refine wp_p (j := J_Node_init) 2 (pc' := 60) (lv' := [(1, .int 0), (0, .ref v0)]) (st' := []) rfl ?_
  obtain ⟨g18, h17, e⟩ := bd e
  refine wp_lv (lv' := [(0, .ref v0), (1, .int 0)]) rfl ⟨rfl, rfl, trivial⟩ ?_
  refine l_Node_init_60 h17 ?_
  show wp (ab_ext L xs) J_Node_init 86 [] [] (hp g18) Q
  have e := Option.some.inj e; subst e; exact wp_vret rfl rfl c
def cL_Tree_init_36 (L : Nat) (xs : Nat → Int32) (Q : Option Value → ab_H → Prop) (v0 : Nat) (out : (Int32 × g_S) ⊕ (g_S)) : Prop := match out with
  | .inl s => wp (ab_ext L xs) J_Tree_init 36 [(0, .ref v0), (1, .int s.1)] [] (hp s.2) Q
  | .inr s => wp (ab_ext L xs) J_Tree_init 61 [(0, .ref v0)] [] (hp s) Q
noncomputable def b_Tree_init_36 (v0 : Nat) (v1 : Int32) (g : g_S) : Option ((Int32 × g_S) ⊕ (g_S)) :=
  if v1 < 120 then
    (rQ g 110 v0 0).bind fun z1 =>
    c2 (nO g 107) fun z2 g3 =>
    (M_Node_init z2 g3).bind fun g4 =>
    (sQ g4 5 z1 v1 z2).bind fun g5 =>
    some (.inl (v1 + 1, g5))
  else
    some (.inr g)
set_option maxRecDepth 20000 in
theorem y_Tree_init_36 {L : Nat} {xs : Nat → Int32} {Q : Option Value → ab_H → Prop} {v0 : Nat} {v1 : Int32} {g : g_S} {out : (Int32 × g_S) ⊕ (g_S)} (e : b_Tree_init_36 v0 v1 g = some out) (c : cL_Tree_init_36 L xs Q v0 out) : wp (ab_ext L xs) J_Tree_init 36 [(0, .ref v0), (1, .int v1)] [] (hp g) Q := by
  unfold b_Tree_init_36 at e
  refine wp_p (j := J_Tree_init) 2 (pc' := 39) (lv' := [(0, .ref v0), (1, .int v1)]) (st' := [.int 120, .int v1]) rfl ?_
  refine x_ge e rfl (fun e => ?_) (fun e => ?_)
  · refine wp_p (j := J_Tree_init) 1 (pc' := 43) (lv' := [(0, .ref v0), (1, .int v1)]) (st' := [.ref v0]) rfl ?_
    refine x_gQ e rfl rfl fd_10_0 rfl (fun z1 e => ?_)
    refine wp_p (j := J_Tree_init) 1 (pc' := 47) (lv' := [(0, .ref v0), (1, .int v1)]) (st' := [.int v1, .ref z1]) rfl ?_
    refine x_nO e rfl rfl rfl (fun z2 g3 e => ?_)
    refine wp_p (j := J_Tree_init) 1 (pc' := 51) (lv' := [(0, .ref v0), (1, .int v1)]) (st' := [.ref z2, .ref z2, .int v1, .ref z1]) rfl ?_
    refine x_ci0 (As := []) (rest := [.ref z2, .int v1, .ref z1]) e rfl rfl rfl rfl rfl (fun h => d_Node_init h ⟨rfl, rfl⟩) (fun g4 e => ?_)
    refine x_sQ e rfl rfl rfl (fun g5 e => ?_)
    refine wp_p (j := J_Tree_init) 2 (pc' := 36) (lv' := [(1, .int (v1 + 1)), (0, .ref v0)]) (st' := []) rfl ?_
    have e := Option.some.inj e; subst e; exact wp_lv (lv' := [(0, .ref v0), (1, .int (v1 + 1))]) rfl ⟨rfl, rfl, trivial⟩ c
  · have e := Option.some.inj e; subst e; exact wp_lv (lv' := [(0, .ref v0)]) rfl ⟨rfl, trivial⟩ c
noncomputable def L_Tree_init_36 (v0 : Nat) (v1 : Int32) (g : g_S) : Option (g_S) := it (fun s : Int32 × g_S => b_Tree_init_36 v0 s.1 s.2) (v1, g)
theorem l_Tree_init_36 {L : Nat} {xs : Nat → Int32} {Q : Option Value → ab_H → Prop} {v0 : Nat} {v1 : Int32} {g : g_S} {r : g_S} (e : L_Tree_init_36 v0 v1 g = some r) (c : cL_Tree_init_36 L xs Q v0 (.inr r)) : wp (ab_ext L xs) J_Tree_init 36 [(0, .ref v0), (1, .int v1)] [] (hp g) Q :=
  it_wp (P := fun s : Int32 × g_S => wp (ab_ext L xs) J_Tree_init 36 [(0, .ref v0), (1, .int s.1)] [] (hp s.2) Q) (E := fun r => cL_Tree_init_36 L xs Q v0 (.inr r)) (fun s out e c => y_Tree_init_36 e (by cases out <;> exact c)) e c
theorem L_Tree_init_36_eq (v0 : Nat) (v1 : Int32) (g : g_S) : L_Tree_init_36 v0 v1 g = itc (b_Tree_init_36 v0 v1 g) (fun s => L_Tree_init_36 v0 s.1 s.2) := it_eq2 (fun s : Int32 × g_S => b_Tree_init_36 v0 s.1 s.2) (v1, g)
def cL_Tree_init_65 (L : Nat) (xs : Nat → Int32) (Q : Option Value → ab_H → Prop) (v0 : Nat) (out : (Int32 × Int32 × g_S) ⊕ (g_S)) : Prop := match out with
  | .inl s => wp (ab_ext L xs) J_Tree_init 65 [(0, .ref v0), (1, .int s.1), (2, .int s.2.1)] [] (hp s.2.2) Q
  | .inr s => wp (ab_ext L xs) J_Tree_init 126 [] [] (hp s) Q
noncomputable def b_Tree_init_65 (v0 : Nat) (v1 : Int32) (v2 : Int32) (g : g_S) : Option ((Int32 × Int32 × g_S) ⊕ (g_S)) :=
  (tN 1000000).bind fun z1 =>
  if v2 < z1 then
    if v1 < 16 then
      (tC 1000000 v2).bind fun z2 =>
      if z2 = 32 then
        some (.inl (v1 + 1, v2 + 1, g))
      else
        (rQ g 110 v0 1).bind fun z3 =>
        (rQ g 110 v0 1).bind fun z4 =>
        (aL g z4 v1).bind fun z5 =>
        (tC 1000000 v2).bind fun z6 =>
        (sL g z3 v1 ((z5 <<< ((8 : Int32).toInt64 &&& 63)) ||| (Int32.toInt64 z6))).bind fun g7 =>
        some (.inl (v1, v2 + 1, g7))
    else
      some (.inr g)
  else
    some (.inr g)
set_option maxRecDepth 20000 in
theorem y_Tree_init_65 {L : Nat} {xs : Nat → Int32} {Q : Option Value → ab_H → Prop} {v0 : Nat} {v1 : Int32} {v2 : Int32} {g : g_S} {out : (Int32 × Int32 × g_S) ⊕ (g_S)} (e : b_Tree_init_65 v0 v1 v2 g = some out) (c : cL_Tree_init_65 L xs Q v0 out) : wp (ab_ext L xs) J_Tree_init 65 [(0, .ref v0), (1, .int v1), (2, .int v2)] [] (hp g) Q := by
  unfold b_Tree_init_65 at e
  refine wp_p (j := J_Tree_init) 1 (pc' := 66) (lv' := [(0, .ref v0), (1, .int v1), (2, .int v2)]) (st' := [.int v2]) rfl ?_
  refine x_ls rfl rfl ?_
  refine x_tN e rfl rfl (fun z1 e => ?_)
  refine x_ge e rfl (fun e => ?_) (fun e => ?_)
  · refine wp_p (j := J_Tree_init) 2 (pc' := 77) (lv' := [(0, .ref v0), (1, .int v1), (2, .int v2)]) (st' := [.int 16, .int v1]) rfl ?_
    refine x_ge e rfl (fun e => ?_) (fun e => ?_)
    · refine x_ls rfl rfl ?_
      refine wp_p (j := J_Tree_init) 1 (pc' := 83) (lv' := [(0, .ref v0), (1, .int v1), (2, .int v2)]) (st' := [.int v2, .ref 1000000]) rfl ?_
      refine x_tC e rfl rfl (fun z2 e => ?_)
      refine wp_p (j := J_Tree_init) 1 (pc' := 88) (lv' := [(0, .ref v0), (1, .int v1), (2, .int v2)]) (st' := [.int 32, .int z2]) rfl ?_
      refine x_ne e rfl (fun e => ?_) (fun e => ?_)
      · refine wp_p (j := J_Tree_init) 4 (pc' := 65) (lv' := [(2, .int (v2 + 1)), (1, .int (v1 + 1)), (0, .ref v0)]) (st' := []) rfl ?_
        have e := Option.some.inj e; subst e; exact wp_lv (lv' := [(0, .ref v0), (1, .int (v1 + 1)), (2, .int (v2 + 1))]) rfl ⟨rfl, rfl, rfl, trivial⟩ c
      · refine wp_p (j := J_Tree_init) 1 (pc' := 98) (lv' := [(0, .ref v0), (1, .int v1), (2, .int v2)]) (st' := [.ref v0]) rfl ?_
        refine x_gQ e rfl rfl fd_10_1 rfl (fun z3 e => ?_)
        refine wp_p (j := J_Tree_init) 2 (pc' := 103) (lv' := [(0, .ref v0), (1, .int v1), (2, .int v2)]) (st' := [.ref v0, .int v1, .ref z3]) rfl ?_
        refine x_gQ e rfl rfl fd_10_1 rfl (fun z4 e => ?_)
        refine wp_p (j := J_Tree_init) 1 (pc' := 107) (lv' := [(0, .ref v0), (1, .int v1), (2, .int v2)]) (st' := [.int v1, .ref z4, .int v1, .ref z3]) rfl ?_
        refine x_aL e rfl rfl (fun z5 e => ?_)
        refine wp_p (j := J_Tree_init) 2 (pc' := 111) (lv' := [(0, .ref v0), (1, .int v1), (2, .int v2)]) (st' := [.long (z5 <<< ((8 : Int32).toInt64 &&& 63)), .int v1, .ref z3]) rfl ?_
        refine x_ls rfl rfl ?_
        refine wp_p (j := J_Tree_init) 1 (pc' := 114) (lv' := [(0, .ref v0), (1, .int v1), (2, .int v2)]) (st' := [.int v2, .ref 1000000, .long (z5 <<< ((8 : Int32).toInt64 &&& 63)), .int v1, .ref z3]) rfl ?_
        refine x_tC e rfl rfl (fun z6 e => ?_)
        refine wp_p (j := J_Tree_init) 2 (pc' := 119) (lv' := [(0, .ref v0), (1, .int v1), (2, .int v2)]) (st' := [.long ((z5 <<< ((8 : Int32).toInt64 &&& 63)) ||| (Int32.toInt64 z6)), .int v1, .ref z3]) rfl ?_
        refine x_sL e rfl rfl (fun g7 e => ?_)
        refine wp_p (j := J_Tree_init) 2 (pc' := 65) (lv' := [(2, .int (v2 + 1)), (0, .ref v0), (1, .int v1)]) (st' := []) rfl ?_
        have e := Option.some.inj e; subst e; exact wp_lv (lv' := [(0, .ref v0), (1, .int v1), (2, .int (v2 + 1))]) rfl ⟨rfl, rfl, rfl, trivial⟩ c
    · have e := Option.some.inj e; subst e; exact wp_lv (lv' := []) rfl trivial c
  · have e := Option.some.inj e; subst e; exact wp_lv (lv' := []) rfl trivial c
noncomputable def L_Tree_init_65 (v0 : Nat) (v1 : Int32) (v2 : Int32) (g : g_S) : Option (g_S) := it (fun s : Int32 × Int32 × g_S => b_Tree_init_65 v0 s.1 s.2.1 s.2.2) (v1, v2, g)
theorem l_Tree_init_65 {L : Nat} {xs : Nat → Int32} {Q : Option Value → ab_H → Prop} {v0 : Nat} {v1 : Int32} {v2 : Int32} {g : g_S} {r : g_S} (e : L_Tree_init_65 v0 v1 v2 g = some r) (c : cL_Tree_init_65 L xs Q v0 (.inr r)) : wp (ab_ext L xs) J_Tree_init 65 [(0, .ref v0), (1, .int v1), (2, .int v2)] [] (hp g) Q :=
  it_wp (P := fun s : Int32 × Int32 × g_S => wp (ab_ext L xs) J_Tree_init 65 [(0, .ref v0), (1, .int s.1), (2, .int s.2.1)] [] (hp s.2.2) Q) (E := fun r => cL_Tree_init_65 L xs Q v0 (.inr r)) (fun s out e c => y_Tree_init_65 e (by cases out <;> exact c)) e c
theorem L_Tree_init_65_eq (v0 : Nat) (v1 : Int32) (v2 : Int32) (g : g_S) : L_Tree_init_65 v0 v1 v2 g = itc (b_Tree_init_65 v0 v1 v2 g) (fun s => L_Tree_init_65 v0 s.1 s.2.1 s.2.2) := it_eq2 (fun s : Int32 × Int32 × g_S => b_Tree_init_65 v0 s.1 s.2.1 s.2.2) (v1, v2, g)
noncomputable def M_Tree_init (v0 : Nat) (g : g_S) : Option g_S :=
  c2 (nA g 5 120) fun z1 g2 =>
  (wR g2 110 v0 0 (some z1)).bind fun g3 =>
  c2 (nA g3 3 16) fun z4 g5 =>
  (wR g5 110 v0 1 (some z4)).bind fun g6 =>
  c2 (nA g6 0 120) fun z7 g8 =>
  (wR g8 110 v0 2 (some z7)).bind fun g9 =>
  (wI g9 110 v0 4 (-1)).bind fun g10 =>
  (L_Tree_init_36 v0 0 g10).bind <| fun g13 =>
  (L_Tree_init_65 v0 0 0 g13).bind <| fun g16 =>
  some g16
set_option maxRecDepth 20000 in
theorem d_Tree_init {L : Nat} {xs : Nat → Int32} {Q : Option Value → ab_H → Prop} {v0 : Nat} {g : g_S} {out : g_S} (e : M_Tree_init v0 g = some out) (c : Q none (hp out)) : mw (ab_ext L xs) J_Tree_init [.ref v0] (hp g) Q := by
  unfold M_Tree_init at e
  refine wp_p (j := J_Tree_init) 1 (pc' := 1) (lv' := [(0, .ref v0)]) (st' := [.ref v0]) rfl ?_
  refine wp_obj rfl (Nat.le_of_ble_eq_true rfl) ?_
  refine wp_p (j := J_Tree_init) 2 (pc' := 7) (lv' := [(0, .ref v0)]) (st' := [.int 120, .ref v0]) rfl ?_
  refine x_nQ e rfl rfl rfl (fun z1 g2 e => ?_)
  refine x_pR (r := (some z1)) e rfl rfl fd_10_0 rfl (fun g3 e => ?_)
  refine wp_p (j := J_Tree_init) 2 (pc' := 16) (lv' := [(0, .ref v0)]) (st' := [.int 16, .ref v0]) rfl ?_
  refine x_nA e rfl rfl rfl (fun z4 g5 e => ?_)
  refine x_pR (r := (some z4)) e rfl rfl fd_10_1 rfl (fun g6 e => ?_)
  refine wp_p (j := J_Tree_init) 2 (pc' := 24) (lv' := [(0, .ref v0)]) (st' := [.int 120, .ref v0]) rfl ?_
  refine x_nA e rfl rfl rfl (fun z7 g8 e => ?_)
  refine x_pR (r := (some z7)) e rfl rfl fd_10_2 rfl (fun g9 e => ?_)
  refine wp_p (j := J_Tree_init) 2 (pc' := 31) (lv' := [(0, .ref v0)]) (st' := [.int (-1), .ref v0]) rfl ?_
  refine x_pI e rfl rfl fw_10_4 rfl (fun g10 e => ?_)
  refine wp_p (j := J_Tree_init) 2 (pc' := 36) (lv' := [(1, .int 0), (0, .ref v0)]) (st' := []) rfl ?_
  obtain ⟨g13, h12, e⟩ := bd e
  refine wp_lv (lv' := [(0, .ref v0), (1, .int 0)]) rfl ⟨rfl, rfl, trivial⟩ ?_
  refine l_Tree_init_36 h12 ?_
  show wp (ab_ext L xs) J_Tree_init 61 [(0, .ref v0)] [] (hp g13) Q
  refine wp_p (j := J_Tree_init) 4 (pc' := 65) (lv' := [(2, .int 0), (1, .int 0), (0, .ref v0)]) (st' := []) rfl ?_
  obtain ⟨g16, h15, e⟩ := bd e
  refine wp_lv (lv' := [(0, .ref v0), (1, .int 0), (2, .int 0)]) rfl ⟨rfl, rfl, rfl, trivial⟩ ?_
  refine l_Tree_init_65 h15 ?_
  show wp (ab_ext L xs) J_Tree_init 126 [] [] (hp g16) Q
  have e := Option.some.inj e; subst e; exact wp_vret rfl rfl c
noncomputable def M_Address_init (v0 : Nat) (g : g_S) : Option g_S :=
  c2 (nA g 1 160) fun z1 g2 =>
  (wR g2 101 v0 0 (some z1)).bind fun g3 =>
  some g3
set_option maxRecDepth 20000 in
theorem d_Address_init {L : Nat} {xs : Nat → Int32} {Q : Option Value → ab_H → Prop} {v0 : Nat} {g : g_S} {out : g_S} (e : M_Address_init v0 g = some out) (c : Q none (hp out)) : mw (ab_ext L xs) J_Address_init [.ref v0] (hp g) Q := by
  unfold M_Address_init at e
  refine wp_p (j := J_Address_init) 1 (pc' := 1) (lv' := [(0, .ref v0)]) (st' := [.ref v0]) rfl ?_
  refine wp_obj rfl (Nat.le_of_ble_eq_true rfl) ?_
  refine wp_p (j := J_Address_init) 2 (pc' := 8) (lv' := [(0, .ref v0)]) (st' := [.int 160, .ref v0]) rfl ?_
  refine x_nA e rfl rfl rfl (fun z1 g2 e => ?_)
  refine x_pR (r := (some z1)) e rfl rfl fd_1_0 rfl (fun g3 e => ?_)
  have e := Option.some.inj e; subst e; exact wp_vret rfl rfl c
noncomputable def M_Answer_init (v0 : Nat) (g : g_S) : Option g_S :=
  c2 (nO g 101) fun z1 g2 =>
  (M_Address_init z1 g2).bind fun g3 =>
  (wR g3 102 v0 0 (some z1)).bind fun g4 =>
  (wI g4 102 v0 1 (-1)).bind fun g5 =>
  c2 (nA g5 1 0) fun z6 g7 =>
  (wR g7 102 v0 6 (some z6)).bind fun g8 =>
  some g8
set_option maxRecDepth 20000 in
theorem d_Answer_init {L : Nat} {xs : Nat → Int32} {Q : Option Value → ab_H → Prop} {v0 : Nat} {g : g_S} {out : g_S} (e : M_Answer_init v0 g = some out) (c : Q none (hp out)) : mw (ab_ext L xs) J_Answer_init [.ref v0] (hp g) Q := by
  unfold M_Answer_init at e
  refine wp_p (j := J_Answer_init) 1 (pc' := 1) (lv' := [(0, .ref v0)]) (st' := [.ref v0]) rfl ?_
  refine wp_obj rfl (Nat.le_of_ble_eq_true rfl) ?_
  refine wp_p (j := J_Answer_init) 1 (pc' := 5) (lv' := [(0, .ref v0)]) (st' := [.ref v0]) rfl ?_
  refine x_nO e rfl rfl rfl (fun z1 g2 e => ?_)
  refine wp_p (j := J_Answer_init) 1 (pc' := 9) (lv' := [(0, .ref v0)]) (st' := [.ref z1, .ref z1, .ref v0]) rfl ?_
  refine x_ci0 (As := []) (rest := [.ref z1, .ref v0]) e rfl rfl rfl rfl rfl (fun h => d_Address_init h ⟨rfl, rfl⟩) (fun g3 e => ?_)
  refine x_pR (r := (some z1)) e rfl rfl fd_2_0 rfl (fun g4 e => ?_)
  refine wp_p (j := J_Answer_init) 2 (pc' := 17) (lv' := [(0, .ref v0)]) (st' := [.int (-1), .ref v0]) rfl ?_
  refine x_pI e rfl rfl fw_2_1 rfl (fun g5 e => ?_)
  refine wp_p (j := J_Answer_init) 2 (pc' := 22) (lv' := [(0, .ref v0)]) (st' := [.int 0, .ref v0]) rfl ?_
  refine x_nA e rfl rfl rfl (fun z6 g7 e => ?_)
  refine x_pR (r := (some z6)) e rfl rfl fd_2_6 rfl (fun g8 e => ?_)
  have e := Option.some.inj e; subst e; exact wp_vret rfl rfl c
noncomputable def M_Arrays_copyOf (v0 : Nat) (v1 : Int32) (g : g_S) : Option (Nat × g_S) :=
  (aN g v0).bind fun z1 =>
  if v1 = z1 then
    none
  else
    c2 (nA g 1 v1) fun z2 g3 =>
    (aN g3 v0).bind fun z4 =>
    (cp g3 1 v0 0 z2 0 (mn z4 v1)).bind fun g5 =>
    some (z2, g5)
set_option maxRecDepth 20000 in
theorem d_Arrays_copyOf {L : Nat} {xs : Nat → Int32} {Q : Option Value → ab_H → Prop} {v0 : Nat} {v1 : Int32} {g : g_S} {out : Nat × g_S} (e : M_Arrays_copyOf v0 v1 g = some out) (c : Q (some (.ref out.1)) (hp out.2)) : mw (ab_ext L xs) J_Arrays_copyOf [.ref v0, .int v1] (hp g) Q := by
  unfold M_Arrays_copyOf at e
  refine wp_p (j := J_Arrays_copyOf) 2 (pc' := 2) (lv' := [(0, .ref v0), (1, .int v1)]) (st' := [.ref v0, .int v1]) rfl ?_
  refine x_aN e rfl rfl (fun z1 e => ?_)
  refine x_ne e rfl (fun e => ?_) (fun e => ?_)
  · refine wp_p (j := J_Arrays_copyOf) 1 (pc' := 7) (lv' := [(0, .ref v0), (1, .int v1)]) (st' := [.ref v0]) rfl ?_
    cases e
  · refine wp_p (j := J_Arrays_copyOf) 1 (pc' := 15) (lv' := [(0, .ref v0), (1, .int v1)]) (st' := [.int v1]) rfl ?_
    refine x_nA e rfl rfl rfl (fun z2 g3 e => ?_)
    refine wp_p (j := J_Arrays_copyOf) 6 (pc' := 23) (lv' := [(2, .ref z2), (0, .ref v0), (1, .int v1)]) (st' := [.ref v0, .int 0, .ref z2, .int 0, .ref v0]) rfl ?_
    refine x_aN e rfl rfl (fun z4 e => ?_)
    refine wp_p (j := J_Arrays_copyOf) 1 (pc' := 25) (lv' := [(2, .ref z2), (0, .ref v0), (1, .int v1)]) (st' := [.int v1, .int z4, .int 0, .ref z2, .int 0, .ref v0]) rfl ?_
    refine x_mn rfl rfl ?_
    refine x_cp e rfl (.inr rfl) rfl (fun g5 e => ?_)
    refine wp_p (j := J_Arrays_copyOf) 1 (pc' := 32) (lv' := [(2, .ref z2), (0, .ref v0), (1, .int v1)]) (st' := [.ref z2]) rfl ?_
    have e := Option.some.inj e; subst e; exact wp_r rfl rfl rfl rfl rfl c
noncomputable def k_Bytes_add_44 (v0 : Nat) (v1 : Int32) (g : g_S) : Option g_S :=
  (rQ g 104 v0 1).bind fun z1 =>
  (rI g 104 v0 2).bind fun z2 =>
  (sB g z1 z2 ((Int32.toInt8 v1).toInt32)).bind fun g3 =>
  (rI g3 104 v0 2).bind fun z4 =>
  (wI g3 104 v0 2 (z4 + 1)).bind fun g5 =>
  some g5
set_option maxRecDepth 20000 in
theorem x_Bytes_add_44 {L : Nat} {xs : Nat → Int32} {Q : Option Value → ab_H → Prop} {v0 : Nat} {v1 : Int32} {g : g_S} {out : g_S} (e : k_Bytes_add_44 v0 v1 g = some out) (c : Q none (hp out)) : wp (ab_ext L xs) J_Bytes_add 44 [(0, .ref v0), (1, .int v1)] [] (hp g) Q := by
  unfold k_Bytes_add_44 at e
  refine wp_p (j := J_Bytes_add) 1 (pc' := 45) (lv' := [(0, .ref v0), (1, .int v1)]) (st' := [.ref v0]) rfl ?_
  refine x_gQ e rfl rfl fd_4_1 rfl (fun z1 e => ?_)
  refine wp_p (j := J_Bytes_add) 1 (pc' := 49) (lv' := [(0, .ref v0), (1, .int v1)]) (st' := [.ref v0, .ref z1]) rfl ?_
  refine x_gI e rfl rfl fd_4_2 rfl (fun z2 e => ?_)
  refine wp_p (j := J_Bytes_add) 2 (pc' := 54) (lv' := [(0, .ref v0), (1, .int v1)]) (st' := [.int ((Int32.toInt8 v1).toInt32), .int z2, .ref z1]) rfl ?_
  refine x_sB e rfl rfl (fun g3 e => ?_)
  refine wp_p (j := J_Bytes_add) 2 (pc' := 57) (lv' := [(0, .ref v0), (1, .int v1)]) (st' := [.ref v0, .ref v0]) rfl ?_
  refine x_gI e rfl rfl fd_4_2 rfl (fun z4 e => ?_)
  refine wp_p (j := J_Bytes_add) 2 (pc' := 62) (lv' := [(0, .ref v0), (1, .int v1)]) (st' := [.int (z4 + 1), .ref v0]) rfl ?_
  refine x_pI e rfl rfl fw_4_2 rfl (fun g5 e => ?_)
  have e := Option.some.inj e; subst e; exact wp_vret rfl rfl c
noncomputable def M_Bytes_add (v0 : Nat) (v1 : Int32) (g : g_S) : Option g_S :=
  (rI g 104 v0 2).bind fun z1 =>
  (rI g 104 v0 0).bind fun z2 =>
  if z1 < z2 then
    (rI g 104 v0 2).bind fun z3 =>
    (rQ g 104 v0 1).bind fun z4 =>
    (aN g z4).bind fun z5 =>
    if z3 = z5 then
      (rQ g 104 v0 1).bind fun z6 =>
      (rI g 104 v0 2).bind fun z7 =>
      c2 (M_Arrays_copyOf z6 ((2 * z7) + 16) g) fun z8 g9 =>
      (wR g9 104 v0 1 (some z8)).bind fun g10 =>
      k_Bytes_add_44 v0 v1 g10
    else
      k_Bytes_add_44 v0 v1 g
  else
    some g
set_option maxRecDepth 20000 in
theorem d_Bytes_add {L : Nat} {xs : Nat → Int32} {Q : Option Value → ab_H → Prop} {v0 : Nat} {v1 : Int32} {g : g_S} {out : g_S} (e : M_Bytes_add v0 v1 g = some out) (c : Q none (hp out)) : mw (ab_ext L xs) J_Bytes_add [.ref v0, .int v1] (hp g) Q := by
  unfold M_Bytes_add at e
  refine wp_p (j := J_Bytes_add) 1 (pc' := 1) (lv' := [(0, .ref v0), (1, .int v1)]) (st' := [.ref v0]) rfl ?_
  refine x_gI e rfl rfl fd_4_2 rfl (fun z1 e => ?_)
  refine wp_p (j := J_Bytes_add) 1 (pc' := 5) (lv' := [(0, .ref v0), (1, .int v1)]) (st' := [.ref v0, .int z1]) rfl ?_
  refine x_gI e rfl rfl fd_4_0 rfl (fun z2 e => ?_)
  refine x_lt e rfl (fun e => ?_) (fun e => ?_)
  · refine wp_p (j := J_Bytes_add) 1 (pc' := 13) (lv' := [(0, .ref v0), (1, .int v1)]) (st' := [.ref v0]) rfl ?_
    refine x_gI e rfl rfl fd_4_2 rfl (fun z3 e => ?_)
    refine wp_p (j := J_Bytes_add) 1 (pc' := 17) (lv' := [(0, .ref v0), (1, .int v1)]) (st' := [.ref v0, .int z3]) rfl ?_
    refine x_gQ e rfl rfl fd_4_1 rfl (fun z4 e => ?_)
    refine x_aN e rfl rfl (fun z5 e => ?_)
    refine x_ne e rfl (fun e => ?_) (fun e => ?_)
    · refine wp_p (j := J_Bytes_add) 2 (pc' := 26) (lv' := [(0, .ref v0), (1, .int v1)]) (st' := [.ref v0, .ref v0]) rfl ?_
      refine x_gQ e rfl rfl fd_4_1 rfl (fun z6 e => ?_)
      refine wp_p (j := J_Bytes_add) 2 (pc' := 31) (lv' := [(0, .ref v0), (1, .int v1)]) (st' := [.ref v0, .int 2, .ref z6, .ref v0]) rfl ?_
      refine x_gI e rfl rfl fd_4_2 rfl (fun z7 e => ?_)
      refine wp_p (j := J_Bytes_add) 3 (pc' := 38) (lv' := [(0, .ref v0), (1, .int v1)]) (st' := [.int ((2 * z7) + 16), .ref z6, .ref v0]) rfl ?_
      refine x_cs2 (As := [.ref z6, .int ((2 * z7) + 16)]) (rest := [.ref v0]) Value.ref e rfl rfl rfl rfl rfl (fun h => d_Arrays_copyOf h ⟨rfl, rfl⟩) (fun z8 g9 e => ?_)
      refine x_pR (r := (some z8)) e rfl rfl fd_4_1 rfl (fun g10 e => ?_)
      exact wp_lv (lv' := [(0, .ref v0), (1, .int v1)]) rfl ⟨rfl, rfl, trivial⟩ (x_Bytes_add_44 e c)
    · exact wp_lv (lv' := [(0, .ref v0), (1, .int v1)]) rfl ⟨rfl, rfl, trivial⟩ (x_Bytes_add_44 e c)
  · have e := Option.some.inj e; subst e; exact wp_vret rfl rfl c
def cL_Bytes_addText_2 (L : Nat) (xs : Nat → Int32) (Q : Option Value → ab_H → Prop) (v0 : Nat) (v1 : Nat) (out : (Int32 × g_S) ⊕ (g_S)) : Prop := match out with
  | .inl s => wp (ab_ext L xs) J_Bytes_addText 2 [(0, .ref v0), (1, .ref v1), (2, .int s.1)] [] (hp s.2) Q
  | .inr s => wp (ab_ext L xs) J_Bytes_addText 25 [] [] (hp s) Q
noncomputable def b_Bytes_addText_2 (v0 : Nat) (v1 : Nat) (v2 : Int32) (g : g_S) : Option ((Int32 × g_S) ⊕ (g_S)) :=
  (tN v1).bind fun z1 =>
  if v2 < z1 then
    (tC v1 v2).bind fun z2 =>
    (vc g 104 v0 (M_Bytes_add v0 z2 g)).bind fun g3 =>
    some (.inl (v2 + 1, g3))
  else
    some (.inr g)
set_option maxRecDepth 20000 in
theorem y_Bytes_addText_2 {L : Nat} {xs : Nat → Int32} {Q : Option Value → ab_H → Prop} {v0 : Nat} {v1 : Nat} {v2 : Int32} {g : g_S} {out : (Int32 × g_S) ⊕ (g_S)} (e : b_Bytes_addText_2 v0 v1 v2 g = some out) (c : cL_Bytes_addText_2 L xs Q v0 v1 out) : wp (ab_ext L xs) J_Bytes_addText 2 [(0, .ref v0), (1, .ref v1), (2, .int v2)] [] (hp g) Q := by
  unfold b_Bytes_addText_2 at e
  refine wp_p (j := J_Bytes_addText) 2 (pc' := 4) (lv' := [(0, .ref v0), (1, .ref v1), (2, .int v2)]) (st' := [.ref v1, .int v2]) rfl ?_
  refine x_tN e rfl rfl (fun z1 e => ?_)
  refine x_ge e rfl (fun e => ?_) (fun e => ?_)
  · refine wp_p (j := J_Bytes_addText) 3 (pc' := 13) (lv' := [(0, .ref v0), (1, .ref v1), (2, .int v2)]) (st' := [.int v2, .ref v1, .ref v0]) rfl ?_
    refine x_tC e rfl rfl (fun z2 e => ?_)
    refine x_cv0 (As := [.int z2]) (rest := []) e rfl rfl rfl rfl rfl rfl (fun h => d_Bytes_add h ⟨rfl, rfl⟩) (fun g3 e => ?_)
    refine wp_p (j := J_Bytes_addText) 2 (pc' := 2) (lv' := [(2, .int (v2 + 1)), (0, .ref v0), (1, .ref v1)]) (st' := []) rfl ?_
    have e := Option.some.inj e; subst e; exact wp_lv (lv' := [(0, .ref v0), (1, .ref v1), (2, .int (v2 + 1))]) rfl ⟨rfl, rfl, rfl, trivial⟩ c
  · have e := Option.some.inj e; subst e; exact wp_lv (lv' := []) rfl trivial c
noncomputable def L_Bytes_addText_2 (v0 : Nat) (v1 : Nat) (v2 : Int32) (g : g_S) : Option (g_S) := it (fun s : Int32 × g_S => b_Bytes_addText_2 v0 v1 s.1 s.2) (v2, g)
theorem l_Bytes_addText_2 {L : Nat} {xs : Nat → Int32} {Q : Option Value → ab_H → Prop} {v0 : Nat} {v1 : Nat} {v2 : Int32} {g : g_S} {r : g_S} (e : L_Bytes_addText_2 v0 v1 v2 g = some r) (c : cL_Bytes_addText_2 L xs Q v0 v1 (.inr r)) : wp (ab_ext L xs) J_Bytes_addText 2 [(0, .ref v0), (1, .ref v1), (2, .int v2)] [] (hp g) Q :=
  it_wp (P := fun s : Int32 × g_S => wp (ab_ext L xs) J_Bytes_addText 2 [(0, .ref v0), (1, .ref v1), (2, .int s.1)] [] (hp s.2) Q) (E := fun r => cL_Bytes_addText_2 L xs Q v0 v1 (.inr r)) (fun s out e c => y_Bytes_addText_2 e (by cases out <;> exact c)) e c
theorem L_Bytes_addText_2_eq (v0 : Nat) (v1 : Nat) (v2 : Int32) (g : g_S) : L_Bytes_addText_2 v0 v1 v2 g = itc (b_Bytes_addText_2 v0 v1 v2 g) (fun s => L_Bytes_addText_2 v0 v1 s.1 s.2) := it_eq2 (fun s : Int32 × g_S => b_Bytes_addText_2 v0 v1 s.1 s.2) (v2, g)
noncomputable def M_Bytes_addText (v0 : Nat) (v1 : Nat) (g : g_S) : Option g_S :=
  (L_Bytes_addText_2 v0 v1 0 g).bind <| fun g3 =>
  some g3
set_option maxRecDepth 20000 in
theorem d_Bytes_addText {L : Nat} {xs : Nat → Int32} {Q : Option Value → ab_H → Prop} {v0 : Nat} {v1 : Nat} {g : g_S} {out : g_S} (e : M_Bytes_addText v0 v1 g = some out) (c : Q none (hp out)) : mw (ab_ext L xs) J_Bytes_addText [.ref v0, .ref v1] (hp g) Q := by
  unfold M_Bytes_addText at e
  refine wp_p (j := J_Bytes_addText) 2 (pc' := 2) (lv' := [(2, .int 0), (0, .ref v0), (1, .ref v1)]) (st' := []) rfl ?_
  obtain ⟨g3, h2, e⟩ := bd e
  refine wp_lv (lv' := [(0, .ref v0), (1, .ref v1), (2, .int 0)]) rfl ⟨rfl, rfl, rfl, trivial⟩ ?_
  refine l_Bytes_addText_2 h2 ?_
  show wp (ab_ext L xs) J_Bytes_addText 25 [] [] (hp g3) Q
  have e := Option.some.inj e; subst e; exact wp_vret rfl rfl c
def cL_Bytes_stands_15 (L : Nat) (xs : Nat → Int32) (Q : Option Value → ab_H → Prop) (v0 : Nat) (v1 : Nat) (v2 : Int32) (g : g_S) (out : (Int32) ⊕ ((Unit) ⊕ (Unit))) : Prop := match out with
  | .inl s => wp (ab_ext L xs) J_Bytes_stands 15 [(0, .ref v0), (1, .ref v1), (2, .int v2), (4, .int s)] [] (hp g) Q
  | .inr (.inl s) => wp (ab_ext L xs) J_Bytes_stands 39 [] [] (hp g) Q
  | .inr (.inr s) => wp (ab_ext L xs) J_Bytes_stands 47 [] [] (hp g) Q
noncomputable def b_Bytes_stands_15 (v0 : Nat) (v1 : Nat) (v2 : Int32) (v4 : Int32) (g : g_S) : Option ((Int32) ⊕ ((Unit) ⊕ (Unit))) :=
  (tN v0).bind fun z1 =>
  if v4 < z1 then
    (aI g 1 v1 (v2 + v4)).bind fun z2 =>
    (tC v0 v4).bind fun z3 =>
    if z2 = z3 then
      some (.inl (v4 + 1))
    else
      some (.inr (.inl ()))
  else
    some (.inr (.inr ()))
set_option maxRecDepth 20000 in
theorem y_Bytes_stands_15 {L : Nat} {xs : Nat → Int32} {Q : Option Value → ab_H → Prop} {v0 : Nat} {v1 : Nat} {v2 : Int32} {v4 : Int32} {g : g_S} {out : (Int32) ⊕ ((Unit) ⊕ (Unit))} (e : b_Bytes_stands_15 v0 v1 v2 v4 g = some out) (c : cL_Bytes_stands_15 L xs Q v0 v1 v2 g out) : wp (ab_ext L xs) J_Bytes_stands 15 [(0, .ref v0), (1, .ref v1), (2, .int v2), (4, .int v4)] [] (hp g) Q := by
  unfold b_Bytes_stands_15 at e
  refine wp_p (j := J_Bytes_stands) 2 (pc' := 18) (lv' := [(0, .ref v0), (1, .ref v1), (2, .int v2), (4, .int v4)]) (st' := [.ref v0, .int v4]) rfl ?_
  refine x_tN e rfl rfl (fun z1 e => ?_)
  refine x_ge e rfl (fun e => ?_) (fun e => ?_)
  · refine wp_p (j := J_Bytes_stands) 4 (pc' := 29) (lv' := [(0, .ref v0), (1, .ref v1), (2, .int v2), (4, .int v4)]) (st' := [.int (v2 + v4), .ref v1]) rfl ?_
    refine x_aB e rfl (.inl rfl) rfl (fun z2 e => ?_)
    refine wp_p (j := J_Bytes_stands) 2 (pc' := 33) (lv' := [(0, .ref v0), (1, .ref v1), (2, .int v2), (4, .int v4)]) (st' := [.int v4, .ref v0, .int z2]) rfl ?_
    refine x_tC e rfl rfl (fun z3 e => ?_)
    refine x_eq e rfl (fun e => ?_) (fun e => ?_)
    · refine wp_p (j := J_Bytes_stands) 2 (pc' := 15) (lv' := [(4, .int (v4 + 1)), (0, .ref v0), (1, .ref v1), (2, .int v2)]) (st' := []) rfl ?_
      have e := Option.some.inj e; subst e; exact wp_lv (lv' := [(0, .ref v0), (1, .ref v1), (2, .int v2), (4, .int (v4 + 1))]) rfl ⟨rfl, rfl, rfl, rfl, trivial⟩ c
    · have e := Option.some.inj e; subst e; exact wp_lv (lv' := []) rfl trivial c
  · have e := Option.some.inj e; subst e; exact wp_lv (lv' := []) rfl trivial c
noncomputable def L_Bytes_stands_15 (v0 : Nat) (v1 : Nat) (v2 : Int32) (v4 : Int32) (g : g_S) : Option ((Unit) ⊕ (Unit)) := it (fun s : Int32 => b_Bytes_stands_15 v0 v1 v2 s g) (v4)
theorem l_Bytes_stands_15 {L : Nat} {xs : Nat → Int32} {Q : Option Value → ab_H → Prop} {v0 : Nat} {v1 : Nat} {v2 : Int32} {v4 : Int32} {g : g_S} {r : (Unit) ⊕ (Unit)} (e : L_Bytes_stands_15 v0 v1 v2 v4 g = some r) (c : cL_Bytes_stands_15 L xs Q v0 v1 v2 g (.inr r)) : wp (ab_ext L xs) J_Bytes_stands 15 [(0, .ref v0), (1, .ref v1), (2, .int v2), (4, .int v4)] [] (hp g) Q :=
  it_wp (P := fun s : Int32 => wp (ab_ext L xs) J_Bytes_stands 15 [(0, .ref v0), (1, .ref v1), (2, .int v2), (4, .int s)] [] (hp g) Q) (E := fun r => cL_Bytes_stands_15 L xs Q v0 v1 v2 g (.inr r)) (fun s out e c => y_Bytes_stands_15 e (by cases out <;> exact c)) e c
theorem L_Bytes_stands_15_eq (v0 : Nat) (v1 : Nat) (v2 : Int32) (v4 : Int32) (g : g_S) : L_Bytes_stands_15 v0 v1 v2 v4 g = itc (b_Bytes_stands_15 v0 v1 v2 v4 g) (fun s => L_Bytes_stands_15 v0 v1 v2 s g) := it_eq2 (fun s : Int32 => b_Bytes_stands_15 v0 v1 v2 s g) (v4)
noncomputable def M_Bytes_stands (v0 : Nat) (v1 : Nat) (v2 : Int32) (v3 : Int32) (g : g_S) : Option Int32 :=
  (tN v0).bind fun z1 =>
  if (v3 - v2) < z1 then
    some 0
  else
    (L_Bytes_stands_15 v0 v1 v2 0 g).bind <|
      us (fun _ =>
      some 0)
      (fun _ =>
      some 1)
set_option maxRecDepth 20000 in
theorem d_Bytes_stands {L : Nat} {xs : Nat → Int32} {Q : Option Value → ab_H → Prop} {v0 : Nat} {v1 : Nat} {v2 : Int32} {v3 : Int32} {g : g_S} {out : Int32} (e : M_Bytes_stands v0 v1 v2 v3 g = some out) (c : Q (some (.int out)) (hp g)) : mw (ab_ext L xs) J_Bytes_stands [.ref v0, .ref v1, .int v2, .int v3] (hp g) Q := by
  unfold M_Bytes_stands at e
  refine wp_p (j := J_Bytes_stands) 1 (pc' := 1) (lv' := [(0, .ref v0), (1, .ref v1), (2, .int v2), (3, .int v3)]) (st' := [.ref v0]) rfl ?_
  refine x_tN e rfl rfl (fun z1 e => ?_)
  refine wp_p (j := J_Bytes_stands) 3 (pc' := 7) (lv' := [(0, .ref v0), (1, .ref v1), (2, .int v2), (3, .int v3)]) (st' := [.int (v3 - v2), .int z1]) rfl ?_
  refine x_le e rfl (fun e => ?_) (fun e => ?_)
  · refine wp_p (j := J_Bytes_stands) 1 (pc' := 11) (lv' := [(0, .ref v0), (1, .ref v1), (2, .int v2), (3, .int v3)]) (st' := [.int 0]) rfl ?_
    have e := Option.some.inj e; subst e; exact wp_iret (ty := .boolean) rfl rfl (by decide) c
  · refine wp_p (j := J_Bytes_stands) 2 (pc' := 15) (lv' := [(4, .int 0), (0, .ref v0), (1, .ref v1), (2, .int v2), (3, .int v3)]) (st' := []) rfl ?_
    obtain ⟨s2, h3, e⟩ := bd e
    refine wp_lv (lv' := [(0, .ref v0), (1, .ref v1), (2, .int v2), (4, .int 0)]) rfl ⟨rfl, rfl, rfl, rfl, trivial⟩ ?_
    refine l_Bytes_stands_15 h3 ?_
    rcases s2 with _ | _
    · replace e := (us_l e)
      show wp (ab_ext L xs) J_Bytes_stands 39 [] [] (hp g) Q
      refine wp_p (j := J_Bytes_stands) 1 (pc' := 40) (lv' := []) (st' := [.int 0]) rfl ?_
      have e := Option.some.inj e; subst e; exact wp_iret (ty := .boolean) rfl rfl (by decide) c
    · replace e := (us_r e)
      show wp (ab_ext L xs) J_Bytes_stands 47 [] [] (hp g) Q
      refine wp_p (j := J_Bytes_stands) 1 (pc' := 48) (lv' := []) (st' := [.int 1]) rfl ?_
      have e := Option.some.inj e; subst e; exact wp_iret (ty := .boolean) rfl rfl (by decide) c
def cL_Bytes_nameEnd_2 (L : Nat) (xs : Nat → Int32) (Q : Option Value → ab_H → Prop) (v0 : Nat) (v1 : Int32) (v2 : Int32) (g : g_S) (out : (Int32) ⊕ ((Int32) ⊕ (Int32))) : Prop := match out with
  | .inl s => wp (ab_ext L xs) J_Bytes_nameEnd 2 [(0, .ref v0), (1, .int v1), (2, .int v2), (3, .int s)] [] (hp g) Q
  | .inr (.inl s) => wp (ab_ext L xs) J_Bytes_nameEnd 76 [(3, .int s)] [] (hp g) Q
  | .inr (.inr s) => wp (ab_ext L xs) J_Bytes_nameEnd 84 [(3, .int s)] [] (hp g) Q
noncomputable def k_Bytes_nameEnd_59 (v0 : Nat) (v1 : Int32) (v2 : Int32) (v3 : Int32) (v4 : Int32) (w0 : Int32) (g : g_S) : Option ((Int32) ⊕ ((Int32) ⊕ (Int32))) :=
  if v4 = 0 then
    if w0 = 0 then
      some (.inr (.inl v3))
    else
      if v3 = v1 then
        some (.inr (.inl v3))
      else
        some (.inl (v3 + 1))
  else
    some (.inl (v3 + 1))
set_option maxRecDepth 20000 in
theorem x_Bytes_nameEnd_59 {L : Nat} {xs : Nat → Int32} {Q : Option Value → ab_H → Prop} {v0 : Nat} {v1 : Int32} {v2 : Int32} {v3 : Int32} {v4 : Int32} {w0 : Int32} {g : g_S} {out : (Int32) ⊕ ((Int32) ⊕ (Int32))} (e : k_Bytes_nameEnd_59 v0 v1 v2 v3 v4 w0 g = some out) (c : cL_Bytes_nameEnd_2 L xs Q v0 v1 v2 g out) : wp (ab_ext L xs) J_Bytes_nameEnd 59 [(0, .ref v0), (1, .int v1), (2, .int v2), (3, .int v3), (4, .int v4)] [.int w0] (hp g) Q := by
  unfold k_Bytes_nameEnd_59 at e
  refine wp_p (j := J_Bytes_nameEnd) 2 (pc' := 63) (lv' := [(5, .int w0), (0, .ref v0), (1, .int v1), (2, .int v2), (3, .int v3), (4, .int v4)]) (st' := [.int v4]) rfl ?_
  refine z_ne e rfl (fun e => ?_) (fun e => ?_)
  · refine wp_p (j := J_Bytes_nameEnd) 1 (pc' := 68) (lv' := [(5, .int w0), (0, .ref v0), (1, .int v1), (2, .int v2), (3, .int v3), (4, .int v4)]) (st' := [.int w0]) rfl ?_
    refine z_eq e rfl (fun e => ?_) (fun e => ?_)
    · have e := Option.some.inj e; subst e; exact wp_lv (lv' := [(3, .int v3)]) rfl ⟨rfl, trivial⟩ c
    · refine wp_p (j := J_Bytes_nameEnd) 2 (pc' := 73) (lv' := [(5, .int w0), (0, .ref v0), (1, .int v1), (2, .int v2), (3, .int v3), (4, .int v4)]) (st' := [.int v1, .int v3]) rfl ?_
      refine x_ne e rfl (fun e => ?_) (fun e => ?_)
      · have e := Option.some.inj e; subst e; exact wp_lv (lv' := [(3, .int v3)]) rfl ⟨rfl, trivial⟩ c
      · refine wp_p (j := J_Bytes_nameEnd) 2 (pc' := 2) (lv' := [(3, .int (v3 + 1)), (5, .int w0), (0, .ref v0), (1, .int v1), (2, .int v2), (4, .int v4)]) (st' := []) rfl ?_
        have e := Option.some.inj e; subst e; exact wp_lv (lv' := [(0, .ref v0), (1, .int v1), (2, .int v2), (3, .int (v3 + 1))]) rfl ⟨rfl, rfl, rfl, rfl, trivial⟩ c
  · refine wp_p (j := J_Bytes_nameEnd) 2 (pc' := 2) (lv' := [(3, .int (v3 + 1)), (5, .int w0), (0, .ref v0), (1, .int v1), (2, .int v2), (4, .int v4)]) (st' := []) rfl ?_
    have e := Option.some.inj e; subst e; exact wp_lv (lv' := [(0, .ref v0), (1, .int v1), (2, .int v2), (3, .int (v3 + 1))]) rfl ⟨rfl, rfl, rfl, rfl, trivial⟩ c
noncomputable def k_Bytes_nameEnd_58 (v0 : Nat) (v1 : Int32) (v2 : Int32) (v3 : Int32) (v4 : Int32) (g : g_S) : Option ((Int32) ⊕ ((Int32) ⊕ (Int32))) :=
  k_Bytes_nameEnd_59 v0 v1 v2 v3 v4 0 g
set_option maxRecDepth 20000 in
theorem x_Bytes_nameEnd_58 {L : Nat} {xs : Nat → Int32} {Q : Option Value → ab_H → Prop} {v0 : Nat} {v1 : Int32} {v2 : Int32} {v3 : Int32} {v4 : Int32} {g : g_S} {out : (Int32) ⊕ ((Int32) ⊕ (Int32))} (e : k_Bytes_nameEnd_58 v0 v1 v2 v3 v4 g = some out) (c : cL_Bytes_nameEnd_2 L xs Q v0 v1 v2 g out) : wp (ab_ext L xs) J_Bytes_nameEnd 58 [(0, .ref v0), (1, .int v1), (2, .int v2), (3, .int v3), (4, .int v4)] [] (hp g) Q := by
  unfold k_Bytes_nameEnd_58 at e
  refine wp_p (j := J_Bytes_nameEnd) 1 (pc' := 59) (lv' := [(0, .ref v0), (1, .int v1), (2, .int v2), (3, .int v3), (4, .int v4)]) (st' := [.int 0]) rfl ?_
  exact wp_lv (lv' := [(0, .ref v0), (1, .int v1), (2, .int v2), (3, .int v3), (4, .int v4)]) rfl ⟨rfl, rfl, rfl, rfl, rfl, trivial⟩ (x_Bytes_nameEnd_59 e c)
noncomputable def k_Bytes_nameEnd_36 (v0 : Nat) (v1 : Int32) (v2 : Int32) (v3 : Int32) (w0 : Int32) (g : g_S) : Option ((Int32) ⊕ ((Int32) ⊕ (Int32))) :=
  (aI g 1 v0 v3).bind fun z1 =>
  if z1 < 48 then
    k_Bytes_nameEnd_58 v0 v1 v2 v3 w0 g
  else
    (aI g 1 v0 v3).bind fun z2 =>
    if 57 < z2 then
      k_Bytes_nameEnd_58 v0 v1 v2 v3 w0 g
    else
      k_Bytes_nameEnd_59 v0 v1 v2 v3 w0 1 g
set_option maxRecDepth 20000 in
theorem x_Bytes_nameEnd_36 {L : Nat} {xs : Nat → Int32} {Q : Option Value → ab_H → Prop} {v0 : Nat} {v1 : Int32} {v2 : Int32} {v3 : Int32} {w0 : Int32} {g : g_S} {out : (Int32) ⊕ ((Int32) ⊕ (Int32))} (e : k_Bytes_nameEnd_36 v0 v1 v2 v3 w0 g = some out) (c : cL_Bytes_nameEnd_2 L xs Q v0 v1 v2 g out) : wp (ab_ext L xs) J_Bytes_nameEnd 36 [(0, .ref v0), (1, .int v1), (2, .int v2), (3, .int v3)] [.int w0] (hp g) Q := by
  unfold k_Bytes_nameEnd_36 at e
  refine wp_p (j := J_Bytes_nameEnd) 3 (pc' := 40) (lv' := [(4, .int w0), (0, .ref v0), (1, .int v1), (2, .int v2), (3, .int v3)]) (st' := [.int v3, .ref v0]) rfl ?_
  refine x_aB e rfl (.inl rfl) rfl (fun z1 e => ?_)
  refine wp_p (j := J_Bytes_nameEnd) 1 (pc' := 43) (lv' := [(4, .int w0), (0, .ref v0), (1, .int v1), (2, .int v2), (3, .int v3)]) (st' := [.int 48, .int z1]) rfl ?_
  refine x_lt e rfl (fun e => ?_) (fun e => ?_)
  · exact wp_lv (lv' := [(0, .ref v0), (1, .int v1), (2, .int v2), (3, .int v3), (4, .int w0)]) rfl ⟨rfl, rfl, rfl, rfl, rfl, trivial⟩ (x_Bytes_nameEnd_58 e c)
  · refine wp_p (j := J_Bytes_nameEnd) 2 (pc' := 48) (lv' := [(4, .int w0), (0, .ref v0), (1, .int v1), (2, .int v2), (3, .int v3)]) (st' := [.int v3, .ref v0]) rfl ?_
    refine x_aB e rfl (.inl rfl) rfl (fun z2 e => ?_)
    refine wp_p (j := J_Bytes_nameEnd) 1 (pc' := 51) (lv' := [(4, .int w0), (0, .ref v0), (1, .int v1), (2, .int v2), (3, .int v3)]) (st' := [.int 57, .int z2]) rfl ?_
    refine x_gt e rfl (fun e => ?_) (fun e => ?_)
    · exact wp_lv (lv' := [(0, .ref v0), (1, .int v1), (2, .int v2), (3, .int v3), (4, .int w0)]) rfl ⟨rfl, rfl, rfl, rfl, rfl, trivial⟩ (x_Bytes_nameEnd_58 e c)
    · refine wp_p (j := J_Bytes_nameEnd) 2 (pc' := 59) (lv' := [(4, .int w0), (0, .ref v0), (1, .int v1), (2, .int v2), (3, .int v3)]) (st' := [.int 1]) rfl ?_
      exact wp_lv (lv' := [(0, .ref v0), (1, .int v1), (2, .int v2), (3, .int v3), (4, .int w0)]) rfl ⟨rfl, rfl, rfl, rfl, rfl, trivial⟩ (x_Bytes_nameEnd_59 e c)
noncomputable def k_Bytes_nameEnd_35 (v0 : Nat) (v1 : Int32) (v2 : Int32) (v3 : Int32) (g : g_S) : Option ((Int32) ⊕ ((Int32) ⊕ (Int32))) :=
  k_Bytes_nameEnd_36 v0 v1 v2 v3 0 g
set_option maxRecDepth 20000 in
theorem x_Bytes_nameEnd_35 {L : Nat} {xs : Nat → Int32} {Q : Option Value → ab_H → Prop} {v0 : Nat} {v1 : Int32} {v2 : Int32} {v3 : Int32} {g : g_S} {out : (Int32) ⊕ ((Int32) ⊕ (Int32))} (e : k_Bytes_nameEnd_35 v0 v1 v2 v3 g = some out) (c : cL_Bytes_nameEnd_2 L xs Q v0 v1 v2 g out) : wp (ab_ext L xs) J_Bytes_nameEnd 35 [(0, .ref v0), (1, .int v1), (2, .int v2), (3, .int v3)] [] (hp g) Q := by
  unfold k_Bytes_nameEnd_35 at e
  refine wp_p (j := J_Bytes_nameEnd) 1 (pc' := 36) (lv' := [(0, .ref v0), (1, .int v1), (2, .int v2), (3, .int v3)]) (st' := [.int 0]) rfl ?_
  exact wp_lv (lv' := [(0, .ref v0), (1, .int v1), (2, .int v2), (3, .int v3)]) rfl ⟨rfl, rfl, rfl, rfl, trivial⟩ (x_Bytes_nameEnd_36 e c)
noncomputable def b_Bytes_nameEnd_2 (v0 : Nat) (v1 : Int32) (v2 : Int32) (v3 : Int32) (g : g_S) : Option ((Int32) ⊕ ((Int32) ⊕ (Int32))) :=
  if v3 < v2 then
    if v3 < (v1 + 8) then
      (aI g 1 v0 v3).bind fun z1 =>
      if z1 < 97 then
        k_Bytes_nameEnd_35 v0 v1 v2 v3 g
      else
        (aI g 1 v0 v3).bind fun z2 =>
        if 122 < z2 then
          k_Bytes_nameEnd_35 v0 v1 v2 v3 g
        else
          k_Bytes_nameEnd_36 v0 v1 v2 v3 1 g
    else
      some (.inr (.inr v3))
  else
    some (.inr (.inr v3))
set_option maxRecDepth 20000 in
theorem y_Bytes_nameEnd_2 {L : Nat} {xs : Nat → Int32} {Q : Option Value → ab_H → Prop} {v0 : Nat} {v1 : Int32} {v2 : Int32} {v3 : Int32} {g : g_S} {out : (Int32) ⊕ ((Int32) ⊕ (Int32))} (e : b_Bytes_nameEnd_2 v0 v1 v2 v3 g = some out) (c : cL_Bytes_nameEnd_2 L xs Q v0 v1 v2 g out) : wp (ab_ext L xs) J_Bytes_nameEnd 2 [(0, .ref v0), (1, .int v1), (2, .int v2), (3, .int v3)] [] (hp g) Q := by
  unfold b_Bytes_nameEnd_2 at e
  refine wp_p (j := J_Bytes_nameEnd) 2 (pc' := 4) (lv' := [(0, .ref v0), (1, .int v1), (2, .int v2), (3, .int v3)]) (st' := [.int v2, .int v3]) rfl ?_
  refine x_ge e rfl (fun e => ?_) (fun e => ?_)
  · refine wp_p (j := J_Bytes_nameEnd) 4 (pc' := 12) (lv' := [(0, .ref v0), (1, .int v1), (2, .int v2), (3, .int v3)]) (st' := [.int (v1 + 8), .int v3]) rfl ?_
    refine x_ge e rfl (fun e => ?_) (fun e => ?_)
    · refine wp_p (j := J_Bytes_nameEnd) 2 (pc' := 17) (lv' := [(0, .ref v0), (1, .int v1), (2, .int v2), (3, .int v3)]) (st' := [.int v3, .ref v0]) rfl ?_
      refine x_aB e rfl (.inl rfl) rfl (fun z1 e => ?_)
      refine wp_p (j := J_Bytes_nameEnd) 1 (pc' := 20) (lv' := [(0, .ref v0), (1, .int v1), (2, .int v2), (3, .int v3)]) (st' := [.int 97, .int z1]) rfl ?_
      refine x_lt e rfl (fun e => ?_) (fun e => ?_)
      · exact wp_lv (lv' := [(0, .ref v0), (1, .int v1), (2, .int v2), (3, .int v3)]) rfl ⟨rfl, rfl, rfl, rfl, trivial⟩ (x_Bytes_nameEnd_35 e c)
      · refine wp_p (j := J_Bytes_nameEnd) 2 (pc' := 25) (lv' := [(0, .ref v0), (1, .int v1), (2, .int v2), (3, .int v3)]) (st' := [.int v3, .ref v0]) rfl ?_
        refine x_aB e rfl (.inl rfl) rfl (fun z2 e => ?_)
        refine wp_p (j := J_Bytes_nameEnd) 1 (pc' := 28) (lv' := [(0, .ref v0), (1, .int v1), (2, .int v2), (3, .int v3)]) (st' := [.int 122, .int z2]) rfl ?_
        refine x_gt e rfl (fun e => ?_) (fun e => ?_)
        · exact wp_lv (lv' := [(0, .ref v0), (1, .int v1), (2, .int v2), (3, .int v3)]) rfl ⟨rfl, rfl, rfl, rfl, trivial⟩ (x_Bytes_nameEnd_35 e c)
        · refine wp_p (j := J_Bytes_nameEnd) 2 (pc' := 36) (lv' := [(0, .ref v0), (1, .int v1), (2, .int v2), (3, .int v3)]) (st' := [.int 1]) rfl ?_
          exact wp_lv (lv' := [(0, .ref v0), (1, .int v1), (2, .int v2), (3, .int v3)]) rfl ⟨rfl, rfl, rfl, rfl, trivial⟩ (x_Bytes_nameEnd_36 e c)
    · have e := Option.some.inj e; subst e; exact wp_lv (lv' := [(3, .int v3)]) rfl ⟨rfl, trivial⟩ c
  · have e := Option.some.inj e; subst e; exact wp_lv (lv' := [(3, .int v3)]) rfl ⟨rfl, trivial⟩ c
noncomputable def L_Bytes_nameEnd_2 (v0 : Nat) (v1 : Int32) (v2 : Int32) (v3 : Int32) (g : g_S) : Option ((Int32) ⊕ (Int32)) := it (fun s : Int32 => b_Bytes_nameEnd_2 v0 v1 v2 s g) (v3)
theorem l_Bytes_nameEnd_2 {L : Nat} {xs : Nat → Int32} {Q : Option Value → ab_H → Prop} {v0 : Nat} {v1 : Int32} {v2 : Int32} {v3 : Int32} {g : g_S} {r : (Int32) ⊕ (Int32)} (e : L_Bytes_nameEnd_2 v0 v1 v2 v3 g = some r) (c : cL_Bytes_nameEnd_2 L xs Q v0 v1 v2 g (.inr r)) : wp (ab_ext L xs) J_Bytes_nameEnd 2 [(0, .ref v0), (1, .int v1), (2, .int v2), (3, .int v3)] [] (hp g) Q :=
  it_wp (P := fun s : Int32 => wp (ab_ext L xs) J_Bytes_nameEnd 2 [(0, .ref v0), (1, .int v1), (2, .int v2), (3, .int s)] [] (hp g) Q) (E := fun r => cL_Bytes_nameEnd_2 L xs Q v0 v1 v2 g (.inr r)) (fun s out e c => y_Bytes_nameEnd_2 e (by cases out <;> exact c)) e c
theorem L_Bytes_nameEnd_2_eq (v0 : Nat) (v1 : Int32) (v2 : Int32) (v3 : Int32) (g : g_S) : L_Bytes_nameEnd_2 v0 v1 v2 v3 g = itc (b_Bytes_nameEnd_2 v0 v1 v2 v3 g) (fun s => L_Bytes_nameEnd_2 v0 v1 v2 s g) := it_eq2 (fun s : Int32 => b_Bytes_nameEnd_2 v0 v1 v2 s g) (v3)
noncomputable def M_Bytes_nameEnd (v0 : Nat) (v1 : Int32) (v2 : Int32) (g : g_S) : Option Int32 :=
  (L_Bytes_nameEnd_2 v0 v1 v2 v1 g).bind <|
    us (fun z3 =>
    some z3)
    (fun z4 =>
    some z4)
set_option maxRecDepth 20000 in
theorem d_Bytes_nameEnd {L : Nat} {xs : Nat → Int32} {Q : Option Value → ab_H → Prop} {v0 : Nat} {v1 : Int32} {v2 : Int32} {g : g_S} {out : Int32} (e : M_Bytes_nameEnd v0 v1 v2 g = some out) (c : Q (some (.int out)) (hp g)) : mw (ab_ext L xs) J_Bytes_nameEnd [.ref v0, .int v1, .int v2] (hp g) Q := by
  unfold M_Bytes_nameEnd at e
  refine wp_p (j := J_Bytes_nameEnd) 2 (pc' := 2) (lv' := [(3, .int v1), (0, .ref v0), (1, .int v1), (2, .int v2)]) (st' := []) rfl ?_
  obtain ⟨s1, h2, e⟩ := bd e
  refine wp_lv (lv' := [(0, .ref v0), (1, .int v1), (2, .int v2), (3, .int v1)]) rfl ⟨rfl, rfl, rfl, rfl, trivial⟩ ?_
  refine l_Bytes_nameEnd_2 h2 ?_
  rcases s1 with z3 | z4
  · replace e := (us_l e)
    show wp (ab_ext L xs) J_Bytes_nameEnd 76 [(3, .int z3)] [] (hp g) Q
    refine wp_p (j := J_Bytes_nameEnd) 1 (pc' := 77) (lv' := [(3, .int z3)]) (st' := [.int z3]) rfl ?_
    have e := Option.some.inj e; subst e; exact wp_iret (ty := .int) rfl rfl rfl c
  · replace e := (us_r e)
    show wp (ab_ext L xs) J_Bytes_nameEnd 84 [(3, .int z4)] [] (hp g) Q
    refine wp_p (j := J_Bytes_nameEnd) 1 (pc' := 85) (lv' := [(3, .int z4)]) (st' := [.int z4]) rfl ?_
    have e := Option.some.inj e; subst e; exact wp_iret (ty := .int) rfl rfl rfl c
noncomputable def M_Bytes_isName (v0 : Nat) (v1 : Int32) (v2 : Int32) (g : g_S) : Option Int32 :=
  if v1 < v2 then
    (M_Bytes_nameEnd v0 v1 v2 g).bind fun z1 =>
    if z1 = v2 then
      some 1
    else
      some 0
  else
    some 0
set_option maxRecDepth 20000 in
theorem d_Bytes_isName {L : Nat} {xs : Nat → Int32} {Q : Option Value → ab_H → Prop} {v0 : Nat} {v1 : Int32} {v2 : Int32} {g : g_S} {out : Int32} (e : M_Bytes_isName v0 v1 v2 g = some out) (c : Q (some (.int out)) (hp g)) : mw (ab_ext L xs) J_Bytes_isName [.ref v0, .int v1, .int v2] (hp g) Q := by
  unfold M_Bytes_isName at e
  refine wp_p (j := J_Bytes_isName) 2 (pc' := 2) (lv' := [(0, .ref v0), (1, .int v1), (2, .int v2)]) (st' := [.int v2, .int v1]) rfl ?_
  refine x_ge e rfl (fun e => ?_) (fun e => ?_)
  · refine wp_p (j := J_Bytes_isName) 3 (pc' := 8) (lv' := [(0, .ref v0), (1, .int v1), (2, .int v2)]) (st' := [.int v2, .int v1, .ref v0]) rfl ?_
    refine x_cs1 (As := [.ref v0, .int v1, .int v2]) (rest := []) Value.int e rfl rfl rfl rfl rfl (fun h => d_Bytes_nameEnd h ⟨rfl, rfl⟩) (fun z1 e => ?_)
    refine wp_p (j := J_Bytes_isName) 1 (pc' := 12) (lv' := [(0, .ref v0), (1, .int v1), (2, .int v2)]) (st' := [.int v2, .int z1]) rfl ?_
    refine x_ne e rfl (fun e => ?_) (fun e => ?_)
    · refine wp_p (j := J_Bytes_isName) 2 (pc' := 20) (lv' := [(0, .ref v0), (1, .int v1), (2, .int v2)]) (st' := [.int 1]) rfl ?_
      have e := Option.some.inj e; subst e; exact wp_iret (ty := .boolean) rfl rfl (by decide) c
    · refine wp_p (j := J_Bytes_isName) 1 (pc' := 20) (lv' := [(0, .ref v0), (1, .int v1), (2, .int v2)]) (st' := [.int 0]) rfl ?_
      have e := Option.some.inj e; subst e; exact wp_iret (ty := .boolean) rfl rfl (by decide) c
  · refine wp_p (j := J_Bytes_isName) 1 (pc' := 20) (lv' := [(0, .ref v0), (1, .int v1), (2, .int v2)]) (st' := [.int 0]) rfl ?_
    have e := Option.some.inj e; subst e; exact wp_iret (ty := .boolean) rfl rfl (by decide) c
def cL_Bytes_pack_5 (L : Nat) (xs : Nat → Int32) (Q : Option Value → ab_H → Prop) (v0 : Nat) (v1 : Int32) (v2 : Int32) (g : g_S) (out : (Int64 × Int32) ⊕ (Int64)) : Prop := match out with
  | .inl s => wp (ab_ext L xs) J_Bytes_pack 5 [(0, .ref v0), (1, .int v1), (2, .int v2), (3, .long s.1), (5, .int s.2)] [] (hp g) Q
  | .inr s => wp (ab_ext L xs) J_Bytes_pack 37 [(3, .long s)] [] (hp g) Q
noncomputable def b_Bytes_pack_5 (v0 : Nat) (v1 : Int32) (v2 : Int32) (v3 : Int64) (v5 : Int32) (g : g_S) : Option ((Int64 × Int32) ⊕ (Int64)) :=
  if v5 < v2 then
    if v5 < (v1 + 8) then
      (aI g 1 v0 v5).bind fun z1 =>
      some (.inl ((v3 <<< ((8 : Int32).toInt64 &&& 63)) ||| (Int32.toInt64 z1), v5 + 1))
    else
      some (.inr v3)
  else
    some (.inr v3)
set_option maxRecDepth 20000 in
theorem y_Bytes_pack_5 {L : Nat} {xs : Nat → Int32} {Q : Option Value → ab_H → Prop} {v0 : Nat} {v1 : Int32} {v2 : Int32} {v3 : Int64} {v5 : Int32} {g : g_S} {out : (Int64 × Int32) ⊕ (Int64)} (e : b_Bytes_pack_5 v0 v1 v2 v3 v5 g = some out) (c : cL_Bytes_pack_5 L xs Q v0 v1 v2 g out) : wp (ab_ext L xs) J_Bytes_pack 5 [(0, .ref v0), (1, .int v1), (2, .int v2), (3, .long v3), (5, .int v5)] [] (hp g) Q := by
  unfold b_Bytes_pack_5 at e
  refine wp_p (j := J_Bytes_pack) 2 (pc' := 8) (lv' := [(0, .ref v0), (1, .int v1), (2, .int v2), (3, .long v3), (5, .int v5)]) (st' := [.int v2, .int v5]) rfl ?_
  refine x_ge e rfl (fun e => ?_) (fun e => ?_)
  · refine wp_p (j := J_Bytes_pack) 4 (pc' := 17) (lv' := [(0, .ref v0), (1, .int v1), (2, .int v2), (3, .long v3), (5, .int v5)]) (st' := [.int (v1 + 8), .int v5]) rfl ?_
    refine x_ge e rfl (fun e => ?_) (fun e => ?_)
    · refine wp_p (j := J_Bytes_pack) 5 (pc' := 27) (lv' := [(0, .ref v0), (1, .int v1), (2, .int v2), (3, .long v3), (5, .int v5)]) (st' := [.int v5, .ref v0, .long (v3 <<< ((8 : Int32).toInt64 &&& 63))]) rfl ?_
      refine x_aB e rfl (.inl rfl) rfl (fun z1 e => ?_)
      refine wp_p (j := J_Bytes_pack) 5 (pc' := 5) (lv' := [(5, .int (v5 + 1)), (3, .long ((v3 <<< ((8 : Int32).toInt64 &&& 63)) ||| (Int32.toInt64 z1))), (0, .ref v0), (1, .int v1), (2, .int v2)]) (st' := []) rfl ?_
      have e := Option.some.inj e; subst e; exact wp_lv (lv' := [(0, .ref v0), (1, .int v1), (2, .int v2), (3, .long ((v3 <<< ((8 : Int32).toInt64 &&& 63)) ||| (Int32.toInt64 z1))), (5, .int (v5 + 1))]) rfl ⟨rfl, rfl, rfl, rfl, rfl, trivial⟩ c
    · have e := Option.some.inj e; subst e; exact wp_lv (lv' := [(3, .long v3)]) rfl ⟨rfl, trivial⟩ c
  · have e := Option.some.inj e; subst e; exact wp_lv (lv' := [(3, .long v3)]) rfl ⟨rfl, trivial⟩ c
noncomputable def L_Bytes_pack_5 (v0 : Nat) (v1 : Int32) (v2 : Int32) (v3 : Int64) (v5 : Int32) (g : g_S) : Option (Int64) := it (fun s : Int64 × Int32 => b_Bytes_pack_5 v0 v1 v2 s.1 s.2 g) (v3, v5)
theorem l_Bytes_pack_5 {L : Nat} {xs : Nat → Int32} {Q : Option Value → ab_H → Prop} {v0 : Nat} {v1 : Int32} {v2 : Int32} {v3 : Int64} {v5 : Int32} {g : g_S} {r : Int64} (e : L_Bytes_pack_5 v0 v1 v2 v3 v5 g = some r) (c : cL_Bytes_pack_5 L xs Q v0 v1 v2 g (.inr r)) : wp (ab_ext L xs) J_Bytes_pack 5 [(0, .ref v0), (1, .int v1), (2, .int v2), (3, .long v3), (5, .int v5)] [] (hp g) Q :=
  it_wp (P := fun s : Int64 × Int32 => wp (ab_ext L xs) J_Bytes_pack 5 [(0, .ref v0), (1, .int v1), (2, .int v2), (3, .long s.1), (5, .int s.2)] [] (hp g) Q) (E := fun r => cL_Bytes_pack_5 L xs Q v0 v1 v2 g (.inr r)) (fun s out e c => y_Bytes_pack_5 e (by cases out <;> exact c)) e c
theorem L_Bytes_pack_5_eq (v0 : Nat) (v1 : Int32) (v2 : Int32) (v3 : Int64) (v5 : Int32) (g : g_S) : L_Bytes_pack_5 v0 v1 v2 v3 v5 g = itc (b_Bytes_pack_5 v0 v1 v2 v3 v5 g) (fun s => L_Bytes_pack_5 v0 v1 v2 s.1 s.2 g) := it_eq2 (fun s : Int64 × Int32 => b_Bytes_pack_5 v0 v1 v2 s.1 s.2 g) (v3, v5)
noncomputable def M_Bytes_pack (v0 : Nat) (v1 : Int32) (v2 : Int32) (g : g_S) : Option Int64 :=
  (L_Bytes_pack_5 v0 v1 v2 0 v1 g).bind <| fun z3 =>
  some z3
set_option maxRecDepth 20000 in
theorem d_Bytes_pack {L : Nat} {xs : Nat → Int32} {Q : Option Value → ab_H → Prop} {v0 : Nat} {v1 : Int32} {v2 : Int32} {g : g_S} {out : Int64} (e : M_Bytes_pack v0 v1 v2 g = some out) (c : Q (some (.long out)) (hp g)) : mw (ab_ext L xs) J_Bytes_pack [.ref v0, .int v1, .int v2] (hp g) Q := by
  unfold M_Bytes_pack at e
  refine wp_p (j := J_Bytes_pack) 4 (pc' := 5) (lv' := [(5, .int v1), (3, .long 0), (0, .ref v0), (1, .int v1), (2, .int v2)]) (st' := []) rfl ?_
  obtain ⟨z3, h2, e⟩ := bd e
  refine wp_lv (lv' := [(0, .ref v0), (1, .int v1), (2, .int v2), (3, .long 0), (5, .int v1)]) rfl ⟨rfl, rfl, rfl, rfl, rfl, trivial⟩ ?_
  refine l_Bytes_pack_5 h2 ?_
  show wp (ab_ext L xs) J_Bytes_pack 37 [(3, .long z3)] [] (hp g) Q
  refine wp_p (j := J_Bytes_pack) 1 (pc' := 38) (lv' := [(3, .long z3)]) (st' := [.long z3]) rfl ?_
  have e := Option.some.inj e; subst e; exact wp_lret rfl rfl c
noncomputable def M_Address_takeSite (v0 : Nat) (v1 : Nat) (v2 : Int32) (v3 : Int32) (g : g_S) : Option g_S :=
  (rQ g 101 v0 0).bind fun z1 =>
  (cp g 1 v1 v2 z1 0 (v3 - v2)).bind fun g2 =>
  (wI g2 101 v0 2 (v3 - v2)).bind fun g3 =>
  (rQ g3 101 v0 0).bind fun z4 =>
  (rI g3 101 v0 2).bind fun z5 =>
  (M_Bytes_pack z4 2 z5 g3).bind fun z6 =>
  (wL g3 101 v0 1 z6).bind fun g7 =>
  some g7
set_option maxRecDepth 20000 in
theorem d_Address_takeSite {L : Nat} {xs : Nat → Int32} {Q : Option Value → ab_H → Prop} {v0 : Nat} {v1 : Nat} {v2 : Int32} {v3 : Int32} {g : g_S} {out : g_S} (e : M_Address_takeSite v0 v1 v2 v3 g = some out) (c : Q none (hp out)) : mw (ab_ext L xs) J_Address_takeSite [.ref v0, .ref v1, .int v2, .int v3] (hp g) Q := by
  unfold M_Address_takeSite at e
  refine wp_p (j := J_Address_takeSite) 3 (pc' := 3) (lv' := [(0, .ref v0), (1, .ref v1), (2, .int v2), (3, .int v3)]) (st' := [.ref v0, .int v2, .ref v1]) rfl ?_
  refine x_gQ e rfl rfl fd_1_0 rfl (fun z1 e => ?_)
  refine wp_p (j := J_Address_takeSite) 4 (pc' := 10) (lv' := [(0, .ref v0), (1, .ref v1), (2, .int v2), (3, .int v3)]) (st' := [.int (v3 - v2), .int 0, .ref z1, .int v2, .ref v1]) rfl ?_
  refine x_cp e rfl (.inr rfl) rfl (fun g2 e => ?_)
  refine wp_p (j := J_Address_takeSite) 4 (pc' := 17) (lv' := [(0, .ref v0), (1, .ref v1), (2, .int v2), (3, .int v3)]) (st' := [.int (v3 - v2), .ref v0]) rfl ?_
  refine x_pI e rfl rfl fw_1_2 rfl (fun g3 e => ?_)
  refine wp_p (j := J_Address_takeSite) 2 (pc' := 22) (lv' := [(0, .ref v0), (1, .ref v1), (2, .int v2), (3, .int v3)]) (st' := [.ref v0, .ref v0]) rfl ?_
  refine x_gQ e rfl rfl fd_1_0 rfl (fun z4 e => ?_)
  refine wp_p (j := J_Address_takeSite) 2 (pc' := 27) (lv' := [(0, .ref v0), (1, .ref v1), (2, .int v2), (3, .int v3)]) (st' := [.ref v0, .int 2, .ref z4, .ref v0]) rfl ?_
  refine x_gI e rfl rfl fd_1_2 rfl (fun z5 e => ?_)
  refine x_cs1 (As := [.ref z4, .int 2, .int z5]) (rest := [.ref v0]) Value.long e rfl rfl rfl rfl rfl (fun h => d_Bytes_pack h ⟨rfl, rfl⟩) (fun z6 e => ?_)
  refine x_pL e rfl rfl fw_1_1 rfl (fun g7 e => ?_)
  have e := Option.some.inj e; subst e; exact wp_vret rfl rfl c
noncomputable def M_Address_takePath (v0 : Nat) (v1 : Nat) (v2 : Int32) (v3 : Int32) (g : g_S) : Option g_S :=
  (rQ g 101 v0 0).bind fun z1 =>
  (rI g 101 v0 2).bind fun z2 =>
  (cp g 1 v1 v2 z1 z2 (v3 - v2)).bind fun g3 =>
  (rI g3 101 v0 2).bind fun z4 =>
  (wI g3 101 v0 3 ((z4 + v3) - v2)).bind fun g5 =>
  (rI g5 101 v0 3).bind fun z6 =>
  (wI g5 101 v0 5 z6).bind fun g7 =>
  some g7
set_option maxRecDepth 20000 in
theorem d_Address_takePath {L : Nat} {xs : Nat → Int32} {Q : Option Value → ab_H → Prop} {v0 : Nat} {v1 : Nat} {v2 : Int32} {v3 : Int32} {g : g_S} {out : g_S} (e : M_Address_takePath v0 v1 v2 v3 g = some out) (c : Q none (hp out)) : mw (ab_ext L xs) J_Address_takePath [.ref v0, .ref v1, .int v2, .int v3] (hp g) Q := by
  unfold M_Address_takePath at e
  refine wp_p (j := J_Address_takePath) 3 (pc' := 3) (lv' := [(0, .ref v0), (1, .ref v1), (2, .int v2), (3, .int v3)]) (st' := [.ref v0, .int v2, .ref v1]) rfl ?_
  refine x_gQ e rfl rfl fd_1_0 rfl (fun z1 e => ?_)
  refine wp_p (j := J_Address_takePath) 1 (pc' := 7) (lv' := [(0, .ref v0), (1, .ref v1), (2, .int v2), (3, .int v3)]) (st' := [.ref v0, .ref z1, .int v2, .ref v1]) rfl ?_
  refine x_gI e rfl rfl fd_1_2 rfl (fun z2 e => ?_)
  refine wp_p (j := J_Address_takePath) 3 (pc' := 13) (lv' := [(0, .ref v0), (1, .ref v1), (2, .int v2), (3, .int v3)]) (st' := [.int (v3 - v2), .int z2, .ref z1, .int v2, .ref v1]) rfl ?_
  refine x_cp e rfl (.inr rfl) rfl (fun g3 e => ?_)
  refine wp_p (j := J_Address_takePath) 2 (pc' := 18) (lv' := [(0, .ref v0), (1, .ref v1), (2, .int v2), (3, .int v3)]) (st' := [.ref v0, .ref v0]) rfl ?_
  refine x_gI e rfl rfl fd_1_2 rfl (fun z4 e => ?_)
  refine wp_p (j := J_Address_takePath) 4 (pc' := 25) (lv' := [(0, .ref v0), (1, .ref v1), (2, .int v2), (3, .int v3)]) (st' := [.int ((z4 + v3) - v2), .ref v0]) rfl ?_
  refine x_pI e rfl rfl fw_1_3 rfl (fun g5 e => ?_)
  refine wp_p (j := J_Address_takePath) 2 (pc' := 30) (lv' := [(0, .ref v0), (1, .ref v1), (2, .int v2), (3, .int v3)]) (st' := [.ref v0, .ref v0]) rfl ?_
  refine x_gI e rfl rfl fd_1_3 rfl (fun z6 e => ?_)
  refine x_pI e rfl rfl fw_1_5 rfl (fun g7 e => ?_)
  have e := Option.some.inj e; subst e; exact wp_vret rfl rfl c
noncomputable def k_Address_isSegmentByte_24 (v0 : Int32) (g : g_S) : Option Int32 :=
  if v0 = 46 then
    some 1
  else
    if v0 = 45 then
      some 1
    else
      if v0 = 95 then
        some 1
      else
        some 0
set_option maxRecDepth 20000 in
theorem x_Address_isSegmentByte_24 {L : Nat} {xs : Nat → Int32} {Q : Option Value → ab_H → Prop} {v0 : Int32} {g : g_S} {out : Int32} (e : k_Address_isSegmentByte_24 v0 g = some out) (c : Q (some (.int out)) (hp g)) : wp (ab_ext L xs) J_Address_isSegmentByte 24 [(0, .int v0)] [] (hp g) Q := by
  unfold k_Address_isSegmentByte_24 at e
  refine wp_p (j := J_Address_isSegmentByte) 2 (pc' := 27) (lv' := [(0, .int v0)]) (st' := [.int 46, .int v0]) rfl ?_
  refine x_eq e rfl (fun e => ?_) (fun e => ?_)
  · refine wp_p (j := J_Address_isSegmentByte) 2 (pc' := 47) (lv' := [(0, .int v0)]) (st' := [.int 1]) rfl ?_
    have e := Option.some.inj e; subst e; exact wp_iret (ty := .boolean) rfl rfl (by decide) c
  · refine wp_p (j := J_Address_isSegmentByte) 2 (pc' := 33) (lv' := [(0, .int v0)]) (st' := [.int 45, .int v0]) rfl ?_
    refine x_eq e rfl (fun e => ?_) (fun e => ?_)
    · refine wp_p (j := J_Address_isSegmentByte) 2 (pc' := 47) (lv' := [(0, .int v0)]) (st' := [.int 1]) rfl ?_
      have e := Option.some.inj e; subst e; exact wp_iret (ty := .boolean) rfl rfl (by decide) c
    · refine wp_p (j := J_Address_isSegmentByte) 2 (pc' := 39) (lv' := [(0, .int v0)]) (st' := [.int 95, .int v0]) rfl ?_
      refine x_ne e rfl (fun e => ?_) (fun e => ?_)
      · refine wp_p (j := J_Address_isSegmentByte) 2 (pc' := 47) (lv' := [(0, .int v0)]) (st' := [.int 1]) rfl ?_
        have e := Option.some.inj e; subst e; exact wp_iret (ty := .boolean) rfl rfl (by decide) c
      · refine wp_p (j := J_Address_isSegmentByte) 1 (pc' := 47) (lv' := [(0, .int v0)]) (st' := [.int 0]) rfl ?_
        have e := Option.some.inj e; subst e; exact wp_iret (ty := .boolean) rfl rfl (by decide) c
noncomputable def k_Address_isSegmentByte_12 (v0 : Int32) (g : g_S) : Option Int32 :=
  if v0 < 48 then
    k_Address_isSegmentByte_24 v0 g
  else
    if 57 < v0 then
      k_Address_isSegmentByte_24 v0 g
    else
      some 1
set_option maxRecDepth 20000 in
theorem x_Address_isSegmentByte_12 {L : Nat} {xs : Nat → Int32} {Q : Option Value → ab_H → Prop} {v0 : Int32} {g : g_S} {out : Int32} (e : k_Address_isSegmentByte_12 v0 g = some out) (c : Q (some (.int out)) (hp g)) : wp (ab_ext L xs) J_Address_isSegmentByte 12 [(0, .int v0)] [] (hp g) Q := by
  unfold k_Address_isSegmentByte_12 at e
  refine wp_p (j := J_Address_isSegmentByte) 2 (pc' := 15) (lv' := [(0, .int v0)]) (st' := [.int 48, .int v0]) rfl ?_
  refine x_lt e rfl (fun e => ?_) (fun e => ?_)
  · exact wp_lv (lv' := [(0, .int v0)]) rfl ⟨rfl, trivial⟩ (x_Address_isSegmentByte_24 e c)
  · refine wp_p (j := J_Address_isSegmentByte) 2 (pc' := 21) (lv' := [(0, .int v0)]) (st' := [.int 57, .int v0]) rfl ?_
    refine x_le e rfl (fun e => ?_) (fun e => ?_)
    · exact wp_lv (lv' := [(0, .int v0)]) rfl ⟨rfl, trivial⟩ (x_Address_isSegmentByte_24 e c)
    · refine wp_p (j := J_Address_isSegmentByte) 2 (pc' := 47) (lv' := [(0, .int v0)]) (st' := [.int 1]) rfl ?_
      have e := Option.some.inj e; subst e; exact wp_iret (ty := .boolean) rfl rfl (by decide) c
noncomputable def M_Address_isSegmentByte (v0 : Int32) (g : g_S) : Option Int32 :=
  if v0 < 97 then
    k_Address_isSegmentByte_12 v0 g
  else
    if 122 < v0 then
      k_Address_isSegmentByte_12 v0 g
    else
      some 1
set_option maxRecDepth 20000 in
theorem d_Address_isSegmentByte {L : Nat} {xs : Nat → Int32} {Q : Option Value → ab_H → Prop} {v0 : Int32} {g : g_S} {out : Int32} (e : M_Address_isSegmentByte v0 g = some out) (c : Q (some (.int out)) (hp g)) : mw (ab_ext L xs) J_Address_isSegmentByte [.int v0] (hp g) Q := by
  unfold M_Address_isSegmentByte at e
  refine wp_p (j := J_Address_isSegmentByte) 2 (pc' := 3) (lv' := [(0, .int v0)]) (st' := [.int 97, .int v0]) rfl ?_
  refine x_lt e rfl (fun e => ?_) (fun e => ?_)
  · exact wp_lv (lv' := [(0, .int v0)]) rfl ⟨rfl, trivial⟩ (x_Address_isSegmentByte_12 e c)
  · refine wp_p (j := J_Address_isSegmentByte) 2 (pc' := 9) (lv' := [(0, .int v0)]) (st' := [.int 122, .int v0]) rfl ?_
    refine x_le e rfl (fun e => ?_) (fun e => ?_)
    · exact wp_lv (lv' := [(0, .int v0)]) rfl ⟨rfl, trivial⟩ (x_Address_isSegmentByte_12 e c)
    · refine wp_p (j := J_Address_isSegmentByte) 2 (pc' := 47) (lv' := [(0, .int v0)]) (st' := [.int 1]) rfl ?_
      have e := Option.some.inj e; subst e; exact wp_iret (ty := .boolean) rfl rfl (by decide) c
def cL_Address_readTail_21 (L : Nat) (xs : Nat → Int32) (Q : Option Value → ab_H → Prop) (v0 : Nat) (v1 : Nat) (v2 : Int32) (v3 : Int32) (g : g_S) (out : (Int32) ⊕ (Int32)) : Prop := match out with
  | .inl s => wp (ab_ext L xs) J_Address_readTail 21 [(0, .ref v0), (1, .ref v1), (2, .int v2), (3, .int v3), (5, .int s)] [] (hp g) Q
  | .inr s => wp (ab_ext L xs) J_Address_readTail 70 [(0, .ref v0), (1, .ref v1), (2, .int v2), (3, .int v3), (5, .int s)] [] (hp g) Q
noncomputable def b_Address_readTail_21 (v0 : Nat) (v1 : Nat) (v2 : Int32) (v3 : Int32) (v5 : Int32) (g : g_S) : Option ((Int32) ⊕ (Int32)) :=
  if v5 < v3 then
    (aI g 1 v1 v5).bind fun z1 =>
    (M_Address_isSegmentByte z1 g).bind fun z2 =>
    if z2 = 0 then
      (aI g 1 v1 v5).bind fun z3 =>
      if z3 = 61 then
        some (.inl (v5 + 1))
      else
        (aI g 1 v1 v5).bind fun z4 =>
        if z4 = 38 then
          some (.inl (v5 + 1))
        else
          (aI g 1 v1 v5).bind fun z5 =>
          if z5 = 43 then
            some (.inl (v5 + 1))
          else
            some (.inr v5)
    else
      some (.inl (v5 + 1))
  else
    some (.inr v5)
set_option maxRecDepth 20000 in
theorem y_Address_readTail_21 {L : Nat} {xs : Nat → Int32} {Q : Option Value → ab_H → Prop} {v0 : Nat} {v1 : Nat} {v2 : Int32} {v3 : Int32} {v5 : Int32} {g : g_S} {out : (Int32) ⊕ (Int32)} (e : b_Address_readTail_21 v0 v1 v2 v3 v5 g = some out) (c : cL_Address_readTail_21 L xs Q v0 v1 v2 v3 g out) : wp (ab_ext L xs) J_Address_readTail 21 [(0, .ref v0), (1, .ref v1), (2, .int v2), (3, .int v3), (5, .int v5)] [] (hp g) Q := by
  unfold b_Address_readTail_21 at e
  refine wp_p (j := J_Address_readTail) 2 (pc' := 24) (lv' := [(0, .ref v0), (1, .ref v1), (2, .int v2), (3, .int v3), (5, .int v5)]) (st' := [.int v3, .int v5]) rfl ?_
  refine x_ge e rfl (fun e => ?_) (fun e => ?_)
  · refine wp_p (j := J_Address_readTail) 2 (pc' := 30) (lv' := [(0, .ref v0), (1, .ref v1), (2, .int v2), (3, .int v3), (5, .int v5)]) (st' := [.int v5, .ref v1]) rfl ?_
    refine x_aB e rfl (.inl rfl) rfl (fun z1 e => ?_)
    refine x_cs1 (As := [.int z1]) (rest := []) Value.int e rfl rfl rfl rfl rfl (fun h => d_Address_isSegmentByte h ⟨rfl, rfl⟩) (fun z2 e => ?_)
    refine z_ne e rfl (fun e => ?_) (fun e => ?_)
    · refine wp_p (j := J_Address_readTail) 2 (pc' := 40) (lv' := [(0, .ref v0), (1, .ref v1), (2, .int v2), (3, .int v3), (5, .int v5)]) (st' := [.int v5, .ref v1]) rfl ?_
      refine x_aB e rfl (.inl rfl) rfl (fun z3 e => ?_)
      refine wp_p (j := J_Address_readTail) 1 (pc' := 43) (lv' := [(0, .ref v0), (1, .ref v1), (2, .int v2), (3, .int v3), (5, .int v5)]) (st' := [.int 61, .int z3]) rfl ?_
      refine x_eq e rfl (fun e => ?_) (fun e => ?_)
      · refine wp_p (j := J_Address_readTail) 2 (pc' := 21) (lv' := [(5, .int (v5 + 1)), (0, .ref v0), (1, .ref v1), (2, .int v2), (3, .int v3)]) (st' := []) rfl ?_
        have e := Option.some.inj e; subst e; exact wp_lv (lv' := [(0, .ref v0), (1, .ref v1), (2, .int v2), (3, .int v3), (5, .int (v5 + 1))]) rfl ⟨rfl, rfl, rfl, rfl, rfl, trivial⟩ c
      · refine wp_p (j := J_Address_readTail) 2 (pc' := 49) (lv' := [(0, .ref v0), (1, .ref v1), (2, .int v2), (3, .int v3), (5, .int v5)]) (st' := [.int v5, .ref v1]) rfl ?_
        refine x_aB e rfl (.inl rfl) rfl (fun z4 e => ?_)
        refine wp_p (j := J_Address_readTail) 1 (pc' := 52) (lv' := [(0, .ref v0), (1, .ref v1), (2, .int v2), (3, .int v3), (5, .int v5)]) (st' := [.int 38, .int z4]) rfl ?_
        refine x_eq e rfl (fun e => ?_) (fun e => ?_)
        · refine wp_p (j := J_Address_readTail) 2 (pc' := 21) (lv' := [(5, .int (v5 + 1)), (0, .ref v0), (1, .ref v1), (2, .int v2), (3, .int v3)]) (st' := []) rfl ?_
          have e := Option.some.inj e; subst e; exact wp_lv (lv' := [(0, .ref v0), (1, .ref v1), (2, .int v2), (3, .int v3), (5, .int (v5 + 1))]) rfl ⟨rfl, rfl, rfl, rfl, rfl, trivial⟩ c
        · refine wp_p (j := J_Address_readTail) 2 (pc' := 58) (lv' := [(0, .ref v0), (1, .ref v1), (2, .int v2), (3, .int v3), (5, .int v5)]) (st' := [.int v5, .ref v1]) rfl ?_
          refine x_aB e rfl (.inl rfl) rfl (fun z5 e => ?_)
          refine wp_p (j := J_Address_readTail) 1 (pc' := 61) (lv' := [(0, .ref v0), (1, .ref v1), (2, .int v2), (3, .int v3), (5, .int v5)]) (st' := [.int 43, .int z5]) rfl ?_
          refine x_ne e rfl (fun e => ?_) (fun e => ?_)
          · refine wp_p (j := J_Address_readTail) 2 (pc' := 21) (lv' := [(5, .int (v5 + 1)), (0, .ref v0), (1, .ref v1), (2, .int v2), (3, .int v3)]) (st' := []) rfl ?_
            have e := Option.some.inj e; subst e; exact wp_lv (lv' := [(0, .ref v0), (1, .ref v1), (2, .int v2), (3, .int v3), (5, .int (v5 + 1))]) rfl ⟨rfl, rfl, rfl, rfl, rfl, trivial⟩ c
          · have e := Option.some.inj e; subst e; exact wp_lv (lv' := [(0, .ref v0), (1, .ref v1), (2, .int v2), (3, .int v3), (5, .int v5)]) rfl ⟨rfl, rfl, rfl, rfl, rfl, trivial⟩ c
    · refine wp_p (j := J_Address_readTail) 2 (pc' := 21) (lv' := [(5, .int (v5 + 1)), (0, .ref v0), (1, .ref v1), (2, .int v2), (3, .int v3)]) (st' := []) rfl ?_
      have e := Option.some.inj e; subst e; exact wp_lv (lv' := [(0, .ref v0), (1, .ref v1), (2, .int v2), (3, .int v3), (5, .int (v5 + 1))]) rfl ⟨rfl, rfl, rfl, rfl, rfl, trivial⟩ c
  · have e := Option.some.inj e; subst e; exact wp_lv (lv' := [(0, .ref v0), (1, .ref v1), (2, .int v2), (3, .int v3), (5, .int v5)]) rfl ⟨rfl, rfl, rfl, rfl, rfl, trivial⟩ c
noncomputable def L_Address_readTail_21 (v0 : Nat) (v1 : Nat) (v2 : Int32) (v3 : Int32) (v5 : Int32) (g : g_S) : Option (Int32) := it (fun s : Int32 => b_Address_readTail_21 v0 v1 v2 v3 s g) (v5)
theorem l_Address_readTail_21 {L : Nat} {xs : Nat → Int32} {Q : Option Value → ab_H → Prop} {v0 : Nat} {v1 : Nat} {v2 : Int32} {v3 : Int32} {v5 : Int32} {g : g_S} {r : Int32} (e : L_Address_readTail_21 v0 v1 v2 v3 v5 g = some r) (c : cL_Address_readTail_21 L xs Q v0 v1 v2 v3 g (.inr r)) : wp (ab_ext L xs) J_Address_readTail 21 [(0, .ref v0), (1, .ref v1), (2, .int v2), (3, .int v3), (5, .int v5)] [] (hp g) Q :=
  it_wp (P := fun s : Int32 => wp (ab_ext L xs) J_Address_readTail 21 [(0, .ref v0), (1, .ref v1), (2, .int v2), (3, .int v3), (5, .int s)] [] (hp g) Q) (E := fun r => cL_Address_readTail_21 L xs Q v0 v1 v2 v3 g (.inr r)) (fun s out e c => y_Address_readTail_21 e (by cases out <;> exact c)) e c
theorem L_Address_readTail_21_eq (v0 : Nat) (v1 : Nat) (v2 : Int32) (v3 : Int32) (v5 : Int32) (g : g_S) : L_Address_readTail_21 v0 v1 v2 v3 v5 g = itc (b_Address_readTail_21 v0 v1 v2 v3 v5 g) (fun s => L_Address_readTail_21 v0 v1 v2 v3 s g) := it_eq2 (fun s : Int32 => b_Address_readTail_21 v0 v1 v2 v3 s g) (v5)
noncomputable def k_Address_readTail_188 (v0 : Nat) (v1 : Nat) (v3 : Int32) (v5 : Int32) (g : g_S) : Option (Int32 × g_S) :=
  (rI g 101 v0 5).bind fun z1 =>
  (wI g 101 v0 4 z1).bind fun g2 =>
  if v5 = v3 then
    some (1, g2)
  else
    if (v5 + 1) = v3 then
      some (0, g2)
    else
      (M_Bytes_nameEnd v1 (v5 + 1) v3 g2).bind fun z3 =>
      if z3 < v3 then
        some (0, g2)
      else
        (rQ g2 101 v0 0).bind fun z4 =>
        (rI g2 101 v0 5).bind fun z5 =>
        (cp g2 1 v1 v5 z4 z5 (v3 - v5)).bind fun g6 =>
        (rI g6 101 v0 5).bind fun z7 =>
        (wI g6 101 v0 5 (z7 + (v3 - v5))).bind fun g8 =>
        some (1, g8)
set_option maxRecDepth 20000 in
theorem x_Address_readTail_188 {L : Nat} {xs : Nat → Int32} {Q : Option Value → ab_H → Prop} {v0 : Nat} {v1 : Nat} {v3 : Int32} {v5 : Int32} {g : g_S} {out : Int32 × g_S} (e : k_Address_readTail_188 v0 v1 v3 v5 g = some out) (c : Q (some (.int out.1)) (hp out.2)) : wp (ab_ext L xs) J_Address_readTail 188 [(0, .ref v0), (1, .ref v1), (3, .int v3), (5, .int v5)] [] (hp g) Q := by
  unfold k_Address_readTail_188 at e
  refine wp_p (j := J_Address_readTail) 2 (pc' := 190) (lv' := [(0, .ref v0), (1, .ref v1), (3, .int v3), (5, .int v5)]) (st' := [.ref v0, .ref v0]) rfl ?_
  refine x_gI e rfl rfl fd_1_5 rfl (fun z1 e => ?_)
  refine x_pI e rfl rfl fw_1_4 rfl (fun g2 e => ?_)
  refine wp_p (j := J_Address_readTail) 2 (pc' := 199) (lv' := [(0, .ref v0), (1, .ref v1), (3, .int v3), (5, .int v5)]) (st' := [.int v3, .int v5]) rfl ?_
  refine x_ne e rfl (fun e => ?_) (fun e => ?_)
  · refine wp_p (j := J_Address_readTail) 1 (pc' := 203) (lv' := [(0, .ref v0), (1, .ref v1), (3, .int v3), (5, .int v5)]) (st' := [.int 1]) rfl ?_
    have e := Option.some.inj e; subst e; exact wp_iret (ty := .boolean) rfl rfl (by decide) c
  · refine wp_p (j := J_Address_readTail) 4 (pc' := 209) (lv' := [(0, .ref v0), (1, .ref v1), (3, .int v3), (5, .int v5)]) (st' := [.int v3, .int (v5 + 1)]) rfl ?_
    refine x_eq e rfl (fun e => ?_) (fun e => ?_)
    · refine wp_p (j := J_Address_readTail) 1 (pc' := 226) (lv' := [(0, .ref v0), (1, .ref v1), (3, .int v3), (5, .int v5)]) (st' := [.int 0]) rfl ?_
      have e := Option.some.inj e; subst e; exact wp_iret (ty := .boolean) rfl rfl (by decide) c
    · refine wp_p (j := J_Address_readTail) 5 (pc' := 218) (lv' := [(0, .ref v0), (1, .ref v1), (3, .int v3), (5, .int v5)]) (st' := [.int v3, .int (v5 + 1), .ref v1]) rfl ?_
      refine x_cs1 (As := [.ref v1, .int (v5 + 1), .int v3]) (rest := []) Value.int e rfl rfl rfl rfl rfl (fun h => d_Bytes_nameEnd h ⟨rfl, rfl⟩) (fun z3 e => ?_)
      refine wp_p (j := J_Address_readTail) 1 (pc' := 222) (lv' := [(0, .ref v0), (1, .ref v1), (3, .int v3), (5, .int v5)]) (st' := [.int v3, .int z3]) rfl ?_
      refine x_ge e rfl (fun e => ?_) (fun e => ?_)
      · refine wp_p (j := J_Address_readTail) 1 (pc' := 226) (lv' := [(0, .ref v0), (1, .ref v1), (3, .int v3), (5, .int v5)]) (st' := [.int 0]) rfl ?_
        have e := Option.some.inj e; subst e; exact wp_iret (ty := .boolean) rfl rfl (by decide) c
      · refine wp_p (j := J_Address_readTail) 3 (pc' := 231) (lv' := [(0, .ref v0), (1, .ref v1), (3, .int v3), (5, .int v5)]) (st' := [.ref v0, .int v5, .ref v1]) rfl ?_
        refine x_gQ e rfl rfl fd_1_0 rfl (fun z4 e => ?_)
        refine wp_p (j := J_Address_readTail) 1 (pc' := 235) (lv' := [(0, .ref v0), (1, .ref v1), (3, .int v3), (5, .int v5)]) (st' := [.ref v0, .ref z4, .int v5, .ref v1]) rfl ?_
        refine x_gI e rfl rfl fd_1_5 rfl (fun z5 e => ?_)
        refine wp_p (j := J_Address_readTail) 3 (pc' := 242) (lv' := [(0, .ref v0), (1, .ref v1), (3, .int v3), (5, .int v5)]) (st' := [.int (v3 - v5), .int z5, .ref z4, .int v5, .ref v1]) rfl ?_
        refine x_cp e rfl (.inr rfl) rfl (fun g6 e => ?_)
        refine wp_p (j := J_Address_readTail) 2 (pc' := 247) (lv' := [(0, .ref v0), (1, .ref v1), (3, .int v3), (5, .int v5)]) (st' := [.ref v0, .ref v0]) rfl ?_
        refine x_gI e rfl rfl fd_1_5 rfl (fun z7 e => ?_)
        refine wp_p (j := J_Address_readTail) 4 (pc' := 255) (lv' := [(0, .ref v0), (1, .ref v1), (3, .int v3), (5, .int v5)]) (st' := [.int (z7 + (v3 - v5)), .ref v0]) rfl ?_
        refine x_pI e rfl rfl fw_1_5 rfl (fun g8 e => ?_)
        refine wp_p (j := J_Address_readTail) 1 (pc' := 259) (lv' := [(0, .ref v0), (1, .ref v1), (3, .int v3), (5, .int v5)]) (st' := [.int 1]) rfl ?_
        have e := Option.some.inj e; subst e; exact wp_iret (ty := .boolean) rfl rfl (by decide) c
noncomputable def k_Address_readTail_131 (v0 : Nat) (v1 : Nat) (v3 : Int32) (v4 : Option Nat) (v5 : Int32) (g : g_S) : Option (Int32 × g_S) :=
  oc v4
    (fun q1 =>
    (rQ g 101 q1 0).bind fun z2 =>
    (rI g 101 q1 3).bind fun z3 =>
    (rQ g 101 v0 0).bind fun z4 =>
    (rI g 101 v0 5).bind fun z5 =>
    (rI g 101 q1 4).bind fun z6 =>
    (rI g 101 q1 3).bind fun z7 =>
    (cp g 1 z2 z3 z4 z5 (z6 - z7)).bind fun g8 =>
    (rI g8 101 v0 5).bind fun z9 =>
    (rI g8 101 q1 4).bind fun z10 =>
    (rI g8 101 q1 3).bind fun z11 =>
    (wI g8 101 v0 5 (z9 + (z10 - z11))).bind fun g12 =>
    k_Address_readTail_188 v0 v1 v3 v5 g12)
    (
    k_Address_readTail_188 v0 v1 v3 v5 g)
set_option maxRecDepth 20000 in
theorem x_Address_readTail_131 {L : Nat} {xs : Nat → Int32} {Q : Option Value → ab_H → Prop} {v0 : Nat} {v1 : Nat} {v3 : Int32} {v4 : Option Nat} {v5 : Int32} {g : g_S} {out : Int32 × g_S} (e : k_Address_readTail_131 v0 v1 v3 v4 v5 g = some out) (c : Q (some (.int out.1)) (hp out.2)) : wp (ab_ext L xs) J_Address_readTail 131 [(0, .ref v0), (1, .ref v1), (3, .int v3), (4, va_rf v4), (5, .int v5)] [] (hp g) Q := by
  unfold k_Address_readTail_131 at e
  rcases v4 with _ | q1
  · replace e := oc_n e
    show wp (ab_ext L xs) J_Address_readTail 131 [(0, .ref v0), (1, .ref v1), (3, .int v3), (4, .null), (5, .int v5)] [] (hp g) Q
    refine wp_p (j := J_Address_readTail) 1 (pc' := 133) (lv' := [(0, .ref v0), (1, .ref v1), (3, .int v3), (4, .null), (5, .int v5)]) (st' := [.null]) rfl ?_
    refine wp_b (pc' := 188) (st' := []) rfl rfl rfl ?_
    exact wp_lv (lv' := [(0, .ref v0), (1, .ref v1), (3, .int v3), (5, .int v5)]) rfl ⟨rfl, rfl, rfl, rfl, trivial⟩ (x_Address_readTail_188 e c)
  · replace e := oc_s e
    show wp (ab_ext L xs) J_Address_readTail 131 [(0, .ref v0), (1, .ref v1), (3, .int v3), (4, .ref q1), (5, .int v5)] [] (hp g) Q
    refine wp_p (j := J_Address_readTail) 1 (pc' := 133) (lv' := [(0, .ref v0), (1, .ref v1), (3, .int v3), (4, .ref q1), (5, .int v5)]) (st' := [.ref q1]) rfl ?_
    refine wp_b (pc' := 136) (st' := []) rfl rfl rfl ?_
    refine wp_p (j := J_Address_readTail) 1 (pc' := 138) (lv' := [(0, .ref v0), (1, .ref v1), (3, .int v3), (4, .ref q1), (5, .int v5)]) (st' := [.ref q1]) rfl ?_
    refine x_gQ e rfl rfl fd_1_0 rfl (fun z2 e => ?_)
    refine wp_p (j := J_Address_readTail) 1 (pc' := 143) (lv' := [(0, .ref v0), (1, .ref v1), (3, .int v3), (4, .ref q1), (5, .int v5)]) (st' := [.ref q1, .ref z2]) rfl ?_
    refine x_gI e rfl rfl fd_1_3 rfl (fun z3 e => ?_)
    refine wp_p (j := J_Address_readTail) 1 (pc' := 147) (lv' := [(0, .ref v0), (1, .ref v1), (3, .int v3), (4, .ref q1), (5, .int v5)]) (st' := [.ref v0, .int z3, .ref z2]) rfl ?_
    refine x_gQ e rfl rfl fd_1_0 rfl (fun z4 e => ?_)
    refine wp_p (j := J_Address_readTail) 1 (pc' := 151) (lv' := [(0, .ref v0), (1, .ref v1), (3, .int v3), (4, .ref q1), (5, .int v5)]) (st' := [.ref v0, .ref z4, .int z3, .ref z2]) rfl ?_
    refine x_gI e rfl rfl fd_1_5 rfl (fun z5 e => ?_)
    refine wp_p (j := J_Address_readTail) 1 (pc' := 156) (lv' := [(0, .ref v0), (1, .ref v1), (3, .int v3), (4, .ref q1), (5, .int v5)]) (st' := [.ref q1, .int z5, .ref z4, .int z3, .ref z2]) rfl ?_
    refine x_gI e rfl rfl fd_1_4 rfl (fun z6 e => ?_)
    refine wp_p (j := J_Address_readTail) 1 (pc' := 161) (lv' := [(0, .ref v0), (1, .ref v1), (3, .int v3), (4, .ref q1), (5, .int v5)]) (st' := [.ref q1, .int z6, .int z5, .ref z4, .int z3, .ref z2]) rfl ?_
    refine x_gI e rfl rfl fd_1_3 rfl (fun z7 e => ?_)
    refine wp_p (j := J_Address_readTail) 1 (pc' := 165) (lv' := [(0, .ref v0), (1, .ref v1), (3, .int v3), (4, .ref q1), (5, .int v5)]) (st' := [.int (z6 - z7), .int z5, .ref z4, .int z3, .ref z2]) rfl ?_
    refine x_cp e rfl (.inr rfl) rfl (fun g8 e => ?_)
    refine wp_p (j := J_Address_readTail) 2 (pc' := 170) (lv' := [(0, .ref v0), (1, .ref v1), (3, .int v3), (4, .ref q1), (5, .int v5)]) (st' := [.ref v0, .ref v0]) rfl ?_
    refine x_gI e rfl rfl fd_1_5 rfl (fun z9 e => ?_)
    refine wp_p (j := J_Address_readTail) 1 (pc' := 175) (lv' := [(0, .ref v0), (1, .ref v1), (3, .int v3), (4, .ref q1), (5, .int v5)]) (st' := [.ref q1, .int z9, .ref v0]) rfl ?_
    refine x_gI e rfl rfl fd_1_4 rfl (fun z10 e => ?_)
    refine wp_p (j := J_Address_readTail) 1 (pc' := 180) (lv' := [(0, .ref v0), (1, .ref v1), (3, .int v3), (4, .ref q1), (5, .int v5)]) (st' := [.ref q1, .int z10, .int z9, .ref v0]) rfl ?_
    refine x_gI e rfl rfl fd_1_3 rfl (fun z11 e => ?_)
    refine wp_p (j := J_Address_readTail) 2 (pc' := 185) (lv' := [(0, .ref v0), (1, .ref v1), (3, .int v3), (4, .ref q1), (5, .int v5)]) (st' := [.int (z9 + (z10 - z11)), .ref v0]) rfl ?_
    refine x_pI e rfl rfl fw_1_5 rfl (fun g12 e => ?_)
    exact wp_lv (lv' := [(0, .ref v0), (1, .ref v1), (3, .int v3), (5, .int v5)]) rfl ⟨rfl, rfl, rfl, rfl, trivial⟩ (x_Address_readTail_188 e c)
noncomputable def k_Address_readTail_98 (v0 : Nat) (v1 : Nat) (v2 : Int32) (v3 : Int32) (v5 : Int32) (g : g_S) : Option (Int32 × g_S) :=
  (rQ g 101 v0 0).bind fun z1 =>
  (rI g 101 v0 5).bind fun z2 =>
  (cp g 1 v1 v2 z1 z2 (v5 - v2)).bind fun g3 =>
  (rI g3 101 v0 5).bind fun z4 =>
  (wI g3 101 v0 5 (z4 + (v5 - v2))).bind fun g5 =>
  k_Address_readTail_188 v0 v1 v3 v5 g5
set_option maxRecDepth 20000 in
theorem x_Address_readTail_98 {L : Nat} {xs : Nat → Int32} {Q : Option Value → ab_H → Prop} {v0 : Nat} {v1 : Nat} {v2 : Int32} {v3 : Int32} {v5 : Int32} {g : g_S} {out : Int32 × g_S} (e : k_Address_readTail_98 v0 v1 v2 v3 v5 g = some out) (c : Q (some (.int out.1)) (hp out.2)) : wp (ab_ext L xs) J_Address_readTail 98 [(0, .ref v0), (1, .ref v1), (2, .int v2), (3, .int v3), (5, .int v5)] [] (hp g) Q := by
  unfold k_Address_readTail_98 at e
  refine wp_p (j := J_Address_readTail) 3 (pc' := 101) (lv' := [(0, .ref v0), (1, .ref v1), (2, .int v2), (3, .int v3), (5, .int v5)]) (st' := [.ref v0, .int v2, .ref v1]) rfl ?_
  refine x_gQ e rfl rfl fd_1_0 rfl (fun z1 e => ?_)
  refine wp_p (j := J_Address_readTail) 1 (pc' := 105) (lv' := [(0, .ref v0), (1, .ref v1), (2, .int v2), (3, .int v3), (5, .int v5)]) (st' := [.ref v0, .ref z1, .int v2, .ref v1]) rfl ?_
  refine x_gI e rfl rfl fd_1_5 rfl (fun z2 e => ?_)
  refine wp_p (j := J_Address_readTail) 3 (pc' := 112) (lv' := [(0, .ref v0), (1, .ref v1), (2, .int v2), (3, .int v3), (5, .int v5)]) (st' := [.int (v5 - v2), .int z2, .ref z1, .int v2, .ref v1]) rfl ?_
  refine x_cp e rfl (.inr rfl) rfl (fun g3 e => ?_)
  refine wp_p (j := J_Address_readTail) 2 (pc' := 117) (lv' := [(0, .ref v0), (1, .ref v1), (2, .int v2), (3, .int v3), (5, .int v5)]) (st' := [.ref v0, .ref v0]) rfl ?_
  refine x_gI e rfl rfl fd_1_5 rfl (fun z4 e => ?_)
  refine wp_p (j := J_Address_readTail) 4 (pc' := 125) (lv' := [(0, .ref v0), (1, .ref v1), (2, .int v2), (3, .int v3), (5, .int v5)]) (st' := [.int (z4 + (v5 - v2)), .ref v0]) rfl ?_
  refine x_pI e rfl rfl fw_1_5 rfl (fun g5 e => ?_)
  refine wp_p (j := J_Address_readTail) 1 (pc' := 188) (lv' := [(0, .ref v0), (1, .ref v1), (2, .int v2), (3, .int v3), (5, .int v5)]) (st' := []) rfl ?_
  exact wp_lv (lv' := [(0, .ref v0), (1, .ref v1), (3, .int v3), (5, .int v5)]) rfl ⟨rfl, rfl, rfl, rfl, trivial⟩ (x_Address_readTail_188 e c)
noncomputable def k_Address_readTail_70 (v0 : Nat) (v1 : Nat) (v2 : Int32) (v3 : Int32) (v5 : Int32) (g : g_S) : Option (Int32 × g_S) :=
  if 40 < ((v5 - v2) - 1) then
    some (0, g)
  else
    if v5 < v3 then
      (aI g 1 v1 v5).bind fun z1 =>
      if z1 = 35 then
        k_Address_readTail_98 v0 v1 v2 v3 v5 g
      else
        some (0, g)
    else
      k_Address_readTail_98 v0 v1 v2 v3 v5 g
set_option maxRecDepth 20000 in
theorem x_Address_readTail_70 {L : Nat} {xs : Nat → Int32} {Q : Option Value → ab_H → Prop} {v0 : Nat} {v1 : Nat} {v2 : Int32} {v3 : Int32} {v5 : Int32} {g : g_S} {out : Int32 × g_S} (e : k_Address_readTail_70 v0 v1 v2 v3 v5 g = some out) (c : Q (some (.int out.1)) (hp out.2)) : wp (ab_ext L xs) J_Address_readTail 70 [(0, .ref v0), (1, .ref v1), (2, .int v2), (3, .int v3), (5, .int v5)] [] (hp g) Q := by
  unfold k_Address_readTail_70 at e
  refine wp_p (j := J_Address_readTail) 6 (pc' := 78) (lv' := [(0, .ref v0), (1, .ref v1), (2, .int v2), (3, .int v3), (5, .int v5)]) (st' := [.int 40, .int ((v5 - v2) - 1)]) rfl ?_
  refine x_gt e rfl (fun e => ?_) (fun e => ?_)
  · refine wp_p (j := J_Address_readTail) 1 (pc' := 97) (lv' := [(0, .ref v0), (1, .ref v1), (2, .int v2), (3, .int v3), (5, .int v5)]) (st' := [.int 0]) rfl ?_
    have e := Option.some.inj e; subst e; exact wp_iret (ty := .boolean) rfl rfl (by decide) c
  · refine wp_p (j := J_Address_readTail) 2 (pc' := 84) (lv' := [(0, .ref v0), (1, .ref v1), (2, .int v2), (3, .int v3), (5, .int v5)]) (st' := [.int v3, .int v5]) rfl ?_
    refine x_ge e rfl (fun e => ?_) (fun e => ?_)
    · refine wp_p (j := J_Address_readTail) 2 (pc' := 90) (lv' := [(0, .ref v0), (1, .ref v1), (2, .int v2), (3, .int v3), (5, .int v5)]) (st' := [.int v5, .ref v1]) rfl ?_
      refine x_aB e rfl (.inl rfl) rfl (fun z1 e => ?_)
      refine wp_p (j := J_Address_readTail) 1 (pc' := 93) (lv' := [(0, .ref v0), (1, .ref v1), (2, .int v2), (3, .int v3), (5, .int v5)]) (st' := [.int 35, .int z1]) rfl ?_
      refine x_eq e rfl (fun e => ?_) (fun e => ?_)
      · exact wp_lv (lv' := [(0, .ref v0), (1, .ref v1), (2, .int v2), (3, .int v3), (5, .int v5)]) rfl ⟨rfl, rfl, rfl, rfl, rfl, trivial⟩ (x_Address_readTail_98 e c)
      · refine wp_p (j := J_Address_readTail) 1 (pc' := 97) (lv' := [(0, .ref v0), (1, .ref v1), (2, .int v2), (3, .int v3), (5, .int v5)]) (st' := [.int 0]) rfl ?_
        have e := Option.some.inj e; subst e; exact wp_iret (ty := .boolean) rfl rfl (by decide) c
    · exact wp_lv (lv' := [(0, .ref v0), (1, .ref v1), (2, .int v2), (3, .int v3), (5, .int v5)]) rfl ⟨rfl, rfl, rfl, rfl, rfl, trivial⟩ (x_Address_readTail_98 e c)
noncomputable def M_Address_readTail (v0 : Nat) (v1 : Nat) (v2 : Int32) (v3 : Int32) (v4 : Option Nat) (g : g_S) : Option (Int32 × g_S) :=
  oc v4
    (fun q1 =>
    if v2 < v3 then
      (aI g 1 v1 v2).bind fun z2 =>
      if z2 = 63 then
        (L_Address_readTail_21 v0 v1 v2 v3 (v2 + 1) g).bind <| fun z5 =>
        k_Address_readTail_70 v0 v1 v2 v3 z5 g
      else
        k_Address_readTail_131 v0 v1 v3 (some q1) v2 g
    else
      k_Address_readTail_131 v0 v1 v3 (some q1) v2 g)
    (
    if v2 < v3 then
      (aI g 1 v1 v2).bind fun z6 =>
      if z6 = 63 then
        (L_Address_readTail_21 v0 v1 v2 v3 (v2 + 1) g).bind <| fun z9 =>
        k_Address_readTail_70 v0 v1 v2 v3 z9 g
      else
        k_Address_readTail_131 v0 v1 v3 none v2 g
    else
      k_Address_readTail_131 v0 v1 v3 none v2 g)
set_option maxRecDepth 20000 in
theorem d_Address_readTail {L : Nat} {xs : Nat → Int32} {Q : Option Value → ab_H → Prop} {v0 : Nat} {v1 : Nat} {v2 : Int32} {v3 : Int32} {v4 : Option Nat} {g : g_S} {out : Int32 × g_S} (e : M_Address_readTail v0 v1 v2 v3 v4 g = some out) (c : Q (some (.int out.1)) (hp out.2)) : mw (ab_ext L xs) J_Address_readTail [.ref v0, .ref v1, .int v2, .int v3, va_rf v4] (hp g) Q := by
  unfold M_Address_readTail at e
  refine wp_p (j := J_Address_readTail) 1 (pc' := 1) (lv' := [(0, .ref v0), (1, .ref v1), (2, .int v2), (3, .int v3), (4, va_rf v4)]) (st' := [.int v2]) rfl ?_
  rcases v4 with _ | q1
  · replace e := oc_n e
    show wp (ab_ext L xs) J_Address_readTail 1 [(0, .ref v0), (1, .ref v1), (2, .int v2), (3, .int v3), (4, .null)] [.int v2] (hp g) Q
    refine wp_p (j := J_Address_readTail) 3 (pc' := 6) (lv' := [(5, .int v2), (0, .ref v0), (1, .ref v1), (2, .int v2), (3, .int v3), (4, .null)]) (st' := [.int v3, .int v2]) rfl ?_
    refine x_ge e rfl (fun e => ?_) (fun e => ?_)
    · refine wp_p (j := J_Address_readTail) 2 (pc' := 12) (lv' := [(5, .int v2), (0, .ref v0), (1, .ref v1), (2, .int v2), (3, .int v3), (4, .null)]) (st' := [.int v2, .ref v1]) rfl ?_
      refine x_aB e rfl (.inl rfl) rfl (fun z6 e => ?_)
      refine wp_p (j := J_Address_readTail) 1 (pc' := 15) (lv' := [(5, .int v2), (0, .ref v0), (1, .ref v1), (2, .int v2), (3, .int v3), (4, .null)]) (st' := [.int 63, .int z6]) rfl ?_
      refine x_ne e rfl (fun e => ?_) (fun e => ?_)
      · refine wp_p (j := J_Address_readTail) 1 (pc' := 21) (lv' := [(5, .int (v2 + 1)), (0, .ref v0), (1, .ref v1), (2, .int v2), (3, .int v3), (4, .null)]) (st' := []) rfl ?_
        obtain ⟨z9, h8, e⟩ := bd e
        refine wp_lv (lv' := [(0, .ref v0), (1, .ref v1), (2, .int v2), (3, .int v3), (5, .int (v2 + 1))]) rfl ⟨rfl, rfl, rfl, rfl, rfl, trivial⟩ ?_
        refine l_Address_readTail_21 h8 ?_
        show wp (ab_ext L xs) J_Address_readTail 70 [(0, .ref v0), (1, .ref v1), (2, .int v2), (3, .int v3), (5, .int z9)] [] (hp g) Q
        exact wp_lv (lv' := [(0, .ref v0), (1, .ref v1), (2, .int v2), (3, .int v3), (5, .int z9)]) rfl ⟨rfl, rfl, rfl, rfl, rfl, trivial⟩ (x_Address_readTail_70 e c)
      · exact wp_lv (lv' := [(0, .ref v0), (1, .ref v1), (3, .int v3), (4, va_rf none), (5, .int v2)]) rfl ⟨rfl, rfl, rfl, rfl, rfl, trivial⟩ (x_Address_readTail_131 e c)
    · exact wp_lv (lv' := [(0, .ref v0), (1, .ref v1), (3, .int v3), (4, va_rf none), (5, .int v2)]) rfl ⟨rfl, rfl, rfl, rfl, rfl, trivial⟩ (x_Address_readTail_131 e c)
  · replace e := oc_s e
    show wp (ab_ext L xs) J_Address_readTail 1 [(0, .ref v0), (1, .ref v1), (2, .int v2), (3, .int v3), (4, .ref q1)] [.int v2] (hp g) Q
    refine wp_p (j := J_Address_readTail) 3 (pc' := 6) (lv' := [(5, .int v2), (0, .ref v0), (1, .ref v1), (2, .int v2), (3, .int v3), (4, .ref q1)]) (st' := [.int v3, .int v2]) rfl ?_
    refine x_ge e rfl (fun e => ?_) (fun e => ?_)
    · refine wp_p (j := J_Address_readTail) 2 (pc' := 12) (lv' := [(5, .int v2), (0, .ref v0), (1, .ref v1), (2, .int v2), (3, .int v3), (4, .ref q1)]) (st' := [.int v2, .ref v1]) rfl ?_
      refine x_aB e rfl (.inl rfl) rfl (fun z2 e => ?_)
      refine wp_p (j := J_Address_readTail) 1 (pc' := 15) (lv' := [(5, .int v2), (0, .ref v0), (1, .ref v1), (2, .int v2), (3, .int v3), (4, .ref q1)]) (st' := [.int 63, .int z2]) rfl ?_
      refine x_ne e rfl (fun e => ?_) (fun e => ?_)
      · refine wp_p (j := J_Address_readTail) 1 (pc' := 21) (lv' := [(5, .int (v2 + 1)), (0, .ref v0), (1, .ref v1), (2, .int v2), (3, .int v3), (4, .ref q1)]) (st' := []) rfl ?_
        obtain ⟨z5, h4, e⟩ := bd e
        refine wp_lv (lv' := [(0, .ref v0), (1, .ref v1), (2, .int v2), (3, .int v3), (5, .int (v2 + 1))]) rfl ⟨rfl, rfl, rfl, rfl, rfl, trivial⟩ ?_
        refine l_Address_readTail_21 h4 ?_
        show wp (ab_ext L xs) J_Address_readTail 70 [(0, .ref v0), (1, .ref v1), (2, .int v2), (3, .int v3), (5, .int z5)] [] (hp g) Q
        exact wp_lv (lv' := [(0, .ref v0), (1, .ref v1), (2, .int v2), (3, .int v3), (5, .int z5)]) rfl ⟨rfl, rfl, rfl, rfl, rfl, trivial⟩ (x_Address_readTail_70 e c)
      · exact wp_lv (lv' := [(0, .ref v0), (1, .ref v1), (3, .int v3), (4, va_rf (some q1)), (5, .int v2)]) rfl ⟨rfl, rfl, rfl, rfl, rfl, trivial⟩ (x_Address_readTail_131 e c)
    · exact wp_lv (lv' := [(0, .ref v0), (1, .ref v1), (3, .int v3), (4, va_rf (some q1)), (5, .int v2)]) rfl ⟨rfl, rfl, rfl, rfl, rfl, trivial⟩ (x_Address_readTail_131 e c)
noncomputable def k_Address_takeSegment_143 (v0 : Nat) (v1 : Nat) (v2 : Int32) (v7 : Int32) (g : g_S) : Option (Int32 × g_S) :=
  (rI g 101 v0 6).bind fun z1 =>
  if z1 = 6 then
    some (0, g)
  else
    (rI g 101 v0 6).bind fun z2 =>
    (wI g 101 v0 6 (z2 + 1)).bind fun g3 =>
    (rI g3 101 v0 5).bind fun z4 =>
    (wI g3 101 v0 5 (z4 - (v7 + 1))).bind fun g5 =>
    (rQ g5 101 v0 0).bind fun z6 =>
    (rI g5 101 v0 5).bind fun z7 =>
    (sB g5 z6 z7 47).bind fun g8 =>
    (rQ g8 101 v0 0).bind fun z9 =>
    (rI g8 101 v0 5).bind fun z10 =>
    (cp g8 1 v1 v2 z9 (z10 + 1) v7).bind fun g11 =>
    some (1, g11)
set_option maxRecDepth 20000 in
theorem x_Address_takeSegment_143 {L : Nat} {xs : Nat → Int32} {Q : Option Value → ab_H → Prop} {v0 : Nat} {v1 : Nat} {v2 : Int32} {v7 : Int32} {g : g_S} {out : Int32 × g_S} (e : k_Address_takeSegment_143 v0 v1 v2 v7 g = some out) (c : Q (some (.int out.1)) (hp out.2)) : wp (ab_ext L xs) J_Address_takeSegment 143 [(0, .ref v0), (1, .ref v1), (2, .int v2), (7, .int v7)] [] (hp g) Q := by
  unfold k_Address_takeSegment_143 at e
  refine wp_p (j := J_Address_takeSegment) 1 (pc' := 144) (lv' := [(0, .ref v0), (1, .ref v1), (2, .int v2), (7, .int v7)]) (st' := [.ref v0]) rfl ?_
  refine x_gI e rfl rfl fd_1_6 rfl (fun z1 e => ?_)
  refine wp_p (j := J_Address_takeSegment) 1 (pc' := 149) (lv' := [(0, .ref v0), (1, .ref v1), (2, .int v2), (7, .int v7)]) (st' := [.int 6, .int z1]) rfl ?_
  refine x_ne e rfl (fun e => ?_) (fun e => ?_)
  · refine wp_p (j := J_Address_takeSegment) 1 (pc' := 153) (lv' := [(0, .ref v0), (1, .ref v1), (2, .int v2), (7, .int v7)]) (st' := [.int 0]) rfl ?_
    have e := Option.some.inj e; subst e; exact wp_iret (ty := .boolean) rfl rfl (by decide) c
  · refine wp_p (j := J_Address_takeSegment) 2 (pc' := 156) (lv' := [(0, .ref v0), (1, .ref v1), (2, .int v2), (7, .int v7)]) (st' := [.ref v0, .ref v0]) rfl ?_
    refine x_gI e rfl rfl fd_1_6 rfl (fun z2 e => ?_)
    refine wp_p (j := J_Address_takeSegment) 2 (pc' := 161) (lv' := [(0, .ref v0), (1, .ref v1), (2, .int v2), (7, .int v7)]) (st' := [.int (z2 + 1), .ref v0]) rfl ?_
    refine x_pI e rfl rfl fw_1_6 rfl (fun g3 e => ?_)
    refine wp_p (j := J_Address_takeSegment) 2 (pc' := 166) (lv' := [(0, .ref v0), (1, .ref v1), (2, .int v2), (7, .int v7)]) (st' := [.ref v0, .ref v0]) rfl ?_
    refine x_gI e rfl rfl fd_1_5 rfl (fun z4 e => ?_)
    refine wp_p (j := J_Address_takeSegment) 4 (pc' := 174) (lv' := [(0, .ref v0), (1, .ref v1), (2, .int v2), (7, .int v7)]) (st' := [.int (z4 - (v7 + 1)), .ref v0]) rfl ?_
    refine x_pI e rfl rfl fw_1_5 rfl (fun g5 e => ?_)
    refine wp_p (j := J_Address_takeSegment) 1 (pc' := 178) (lv' := [(0, .ref v0), (1, .ref v1), (2, .int v2), (7, .int v7)]) (st' := [.ref v0]) rfl ?_
    refine x_gQ e rfl rfl fd_1_0 rfl (fun z6 e => ?_)
    refine wp_p (j := J_Address_takeSegment) 1 (pc' := 182) (lv' := [(0, .ref v0), (1, .ref v1), (2, .int v2), (7, .int v7)]) (st' := [.ref v0, .ref z6]) rfl ?_
    refine x_gI e rfl rfl fd_1_5 rfl (fun z7 e => ?_)
    refine wp_p (j := J_Address_takeSegment) 1 (pc' := 187) (lv' := [(0, .ref v0), (1, .ref v1), (2, .int v2), (7, .int v7)]) (st' := [.int 47, .int z7, .ref z6]) rfl ?_
    refine x_sB e rfl rfl (fun g8 e => ?_)
    refine wp_p (j := J_Address_takeSegment) 3 (pc' := 191) (lv' := [(0, .ref v0), (1, .ref v1), (2, .int v2), (7, .int v7)]) (st' := [.ref v0, .int v2, .ref v1]) rfl ?_
    refine x_gQ e rfl rfl fd_1_0 rfl (fun z9 e => ?_)
    refine wp_p (j := J_Address_takeSegment) 1 (pc' := 195) (lv' := [(0, .ref v0), (1, .ref v1), (2, .int v2), (7, .int v7)]) (st' := [.ref v0, .ref z9, .int v2, .ref v1]) rfl ?_
    refine x_gI e rfl rfl fd_1_5 rfl (fun z10 e => ?_)
    refine wp_p (j := J_Address_takeSegment) 3 (pc' := 202) (lv' := [(0, .ref v0), (1, .ref v1), (2, .int v2), (7, .int v7)]) (st' := [.int v7, .int (z10 + 1), .ref z9, .int v2, .ref v1]) rfl ?_
    refine x_cp e rfl (.inr rfl) rfl (fun g11 e => ?_)
    refine wp_p (j := J_Address_takeSegment) 1 (pc' := 206) (lv' := [(0, .ref v0), (1, .ref v1), (2, .int v2), (7, .int v7)]) (st' := [.int 1]) rfl ?_
    have e := Option.some.inj e; subst e; exact wp_iret (ty := .boolean) rfl rfl (by decide) c
noncomputable def k_Address_takeSegment_103 (v0 : Nat) (v1 : Nat) (v2 : Int32) (v5 : Int32) (v6 : Int32) (w0 : Int32) (g : g_S) : Option (Int32 × g_S) :=
  if 12 < w0 then
    some (0, g)
  else
    if v5 = 0 then
      if v6 = 0 then
        (rI g 101 v0 7).bind fun z1 =>
        if 0 < z1 then
          (rI g 101 v0 7).bind fun z2 =>
          (wI g 101 v0 7 (z2 - 1)).bind fun g3 =>
          some (1, g3)
        else
          k_Address_takeSegment_143 v0 v1 v2 w0 g
      else
        k_Address_takeSegment_143 v0 v1 v2 w0 g
    else
      k_Address_takeSegment_143 v0 v1 v2 w0 g
set_option maxRecDepth 20000 in
theorem x_Address_takeSegment_103 {L : Nat} {xs : Nat → Int32} {Q : Option Value → ab_H → Prop} {v0 : Nat} {v1 : Nat} {v2 : Int32} {v5 : Int32} {v6 : Int32} {w0 : Int32} {g : g_S} {out : Int32 × g_S} (e : k_Address_takeSegment_103 v0 v1 v2 v5 v6 w0 g = some out) (c : Q (some (.int out.1)) (hp out.2)) : wp (ab_ext L xs) J_Address_takeSegment 103 [(0, .ref v0), (1, .ref v1), (2, .int v2), (5, .int v5), (6, .int v6)] [.int w0] (hp g) Q := by
  unfold k_Address_takeSegment_103 at e
  refine wp_p (j := J_Address_takeSegment) 3 (pc' := 109) (lv' := [(7, .int w0), (0, .ref v0), (1, .ref v1), (2, .int v2), (5, .int v5), (6, .int v6)]) (st' := [.int 12, .int w0]) rfl ?_
  refine x_le e rfl (fun e => ?_) (fun e => ?_)
  · refine wp_p (j := J_Address_takeSegment) 1 (pc' := 113) (lv' := [(7, .int w0), (0, .ref v0), (1, .ref v1), (2, .int v2), (5, .int v5), (6, .int v6)]) (st' := [.int 0]) rfl ?_
    have e := Option.some.inj e; subst e; exact wp_iret (ty := .boolean) rfl rfl (by decide) c
  · refine wp_p (j := J_Address_takeSegment) 1 (pc' := 116) (lv' := [(7, .int w0), (0, .ref v0), (1, .ref v1), (2, .int v2), (5, .int v5), (6, .int v6)]) (st' := [.int v5]) rfl ?_
    refine z_ne e rfl (fun e => ?_) (fun e => ?_)
    · refine wp_p (j := J_Address_takeSegment) 1 (pc' := 121) (lv' := [(7, .int w0), (0, .ref v0), (1, .ref v1), (2, .int v2), (5, .int v5), (6, .int v6)]) (st' := [.int v6]) rfl ?_
      refine z_ne e rfl (fun e => ?_) (fun e => ?_)
      · refine wp_p (j := J_Address_takeSegment) 1 (pc' := 125) (lv' := [(7, .int w0), (0, .ref v0), (1, .ref v1), (2, .int v2), (5, .int v5), (6, .int v6)]) (st' := [.ref v0]) rfl ?_
        refine x_gI e rfl rfl fd_1_7 rfl (fun z1 e => ?_)
        refine z_le e rfl (fun e => ?_) (fun e => ?_)
        · refine wp_p (j := J_Address_takeSegment) 2 (pc' := 133) (lv' := [(7, .int w0), (0, .ref v0), (1, .ref v1), (2, .int v2), (5, .int v5), (6, .int v6)]) (st' := [.ref v0, .ref v0]) rfl ?_
          refine x_gI e rfl rfl fd_1_7 rfl (fun z2 e => ?_)
          refine wp_p (j := J_Address_takeSegment) 2 (pc' := 138) (lv' := [(7, .int w0), (0, .ref v0), (1, .ref v1), (2, .int v2), (5, .int v5), (6, .int v6)]) (st' := [.int (z2 - 1), .ref v0]) rfl ?_
          refine x_pI e rfl rfl fw_1_7 rfl (fun g3 e => ?_)
          refine wp_p (j := J_Address_takeSegment) 1 (pc' := 142) (lv' := [(7, .int w0), (0, .ref v0), (1, .ref v1), (2, .int v2), (5, .int v5), (6, .int v6)]) (st' := [.int 1]) rfl ?_
          have e := Option.some.inj e; subst e; exact wp_iret (ty := .boolean) rfl rfl (by decide) c
        · exact wp_lv (lv' := [(0, .ref v0), (1, .ref v1), (2, .int v2), (7, .int w0)]) rfl ⟨rfl, rfl, rfl, rfl, trivial⟩ (x_Address_takeSegment_143 e c)
      · exact wp_lv (lv' := [(0, .ref v0), (1, .ref v1), (2, .int v2), (7, .int w0)]) rfl ⟨rfl, rfl, rfl, rfl, trivial⟩ (x_Address_takeSegment_143 e c)
    · exact wp_lv (lv' := [(0, .ref v0), (1, .ref v1), (2, .int v2), (7, .int w0)]) rfl ⟨rfl, rfl, rfl, rfl, trivial⟩ (x_Address_takeSegment_143 e c)
noncomputable def k_Address_takeSegment_96 (v0 : Nat) (v1 : Nat) (v2 : Int32) (v5 : Int32) (v6 : Int32) (g : g_S) : Option (Int32 × g_S) :=
  k_Address_takeSegment_103 v0 v1 v2 v5 v6 0 g
set_option maxRecDepth 20000 in
theorem x_Address_takeSegment_96 {L : Nat} {xs : Nat → Int32} {Q : Option Value → ab_H → Prop} {v0 : Nat} {v1 : Nat} {v2 : Int32} {v5 : Int32} {v6 : Int32} {g : g_S} {out : Int32 × g_S} (e : k_Address_takeSegment_96 v0 v1 v2 v5 v6 g = some out) (c : Q (some (.int out.1)) (hp out.2)) : wp (ab_ext L xs) J_Address_takeSegment 96 [(0, .ref v0), (1, .ref v1), (2, .int v2), (5, .int v5), (6, .int v6)] [] (hp g) Q := by
  unfold k_Address_takeSegment_96 at e
  refine wp_p (j := J_Address_takeSegment) 2 (pc' := 103) (lv' := [(0, .ref v0), (1, .ref v1), (2, .int v2), (5, .int v5), (6, .int v6)]) (st' := [.int 0]) rfl ?_
  exact wp_lv (lv' := [(0, .ref v0), (1, .ref v1), (2, .int v2), (5, .int v5), (6, .int v6)]) rfl ⟨rfl, rfl, rfl, rfl, rfl, trivial⟩ (x_Address_takeSegment_103 e c)
noncomputable def k_Address_takeSegment_86 (v0 : Nat) (v1 : Nat) (v2 : Int32) (v3 : Int32) (v5 : Int32) (v6 : Int32) (g : g_S) : Option (Int32 × g_S) :=
  if v5 = 0 then
    if v6 = 0 then
      k_Address_takeSegment_103 v0 v1 v2 v5 v6 (v3 - v2) g
    else
      k_Address_takeSegment_96 v0 v1 v2 v5 v6 g
  else
    k_Address_takeSegment_96 v0 v1 v2 v5 v6 g
set_option maxRecDepth 20000 in
theorem x_Address_takeSegment_86 {L : Nat} {xs : Nat → Int32} {Q : Option Value → ab_H → Prop} {v0 : Nat} {v1 : Nat} {v2 : Int32} {v3 : Int32} {v5 : Int32} {v6 : Int32} {g : g_S} {out : Int32 × g_S} (e : k_Address_takeSegment_86 v0 v1 v2 v3 v5 v6 g = some out) (c : Q (some (.int out.1)) (hp out.2)) : wp (ab_ext L xs) J_Address_takeSegment 86 [(0, .ref v0), (1, .ref v1), (2, .int v2), (3, .int v3), (5, .int v5), (6, .int v6)] [] (hp g) Q := by
  unfold k_Address_takeSegment_86 at e
  refine wp_p (j := J_Address_takeSegment) 1 (pc' := 88) (lv' := [(0, .ref v0), (1, .ref v1), (2, .int v2), (3, .int v3), (5, .int v5), (6, .int v6)]) (st' := [.int v5]) rfl ?_
  refine z_ne e rfl (fun e => ?_) (fun e => ?_)
  · refine wp_p (j := J_Address_takeSegment) 1 (pc' := 93) (lv' := [(0, .ref v0), (1, .ref v1), (2, .int v2), (3, .int v3), (5, .int v5), (6, .int v6)]) (st' := [.int v6]) rfl ?_
    refine z_eq e rfl (fun e => ?_) (fun e => ?_)
    · refine wp_p (j := J_Address_takeSegment) 3 (pc' := 103) (lv' := [(0, .ref v0), (1, .ref v1), (2, .int v2), (3, .int v3), (5, .int v5), (6, .int v6)]) (st' := [.int (v3 - v2)]) rfl ?_
      exact wp_lv (lv' := [(0, .ref v0), (1, .ref v1), (2, .int v2), (5, .int v5), (6, .int v6)]) rfl ⟨rfl, rfl, rfl, rfl, rfl, trivial⟩ (x_Address_takeSegment_103 e c)
    · exact wp_lv (lv' := [(0, .ref v0), (1, .ref v1), (2, .int v2), (5, .int v5), (6, .int v6)]) rfl ⟨rfl, rfl, rfl, rfl, rfl, trivial⟩ (x_Address_takeSegment_96 e c)
  · exact wp_lv (lv' := [(0, .ref v0), (1, .ref v1), (2, .int v2), (5, .int v5), (6, .int v6)]) rfl ⟨rfl, rfl, rfl, rfl, rfl, trivial⟩ (x_Address_takeSegment_96 e c)
noncomputable def k_Address_takeSegment_79 (v0 : Nat) (v1 : Nat) (v2 : Int32) (v3 : Int32) (v4 : Int32) (v5 : Int32) (v6 : Int32) (g : g_S) : Option (Int32 × g_S) :=
  if v4 = 0 then
    some (1, g)
  else
    k_Address_takeSegment_86 v0 v1 v2 v3 v5 v6 g
set_option maxRecDepth 20000 in
theorem x_Address_takeSegment_79 {L : Nat} {xs : Nat → Int32} {Q : Option Value → ab_H → Prop} {v0 : Nat} {v1 : Nat} {v2 : Int32} {v3 : Int32} {v4 : Int32} {v5 : Int32} {v6 : Int32} {g : g_S} {out : Int32 × g_S} (e : k_Address_takeSegment_79 v0 v1 v2 v3 v4 v5 v6 g = some out) (c : Q (some (.int out.1)) (hp out.2)) : wp (ab_ext L xs) J_Address_takeSegment 79 [(0, .ref v0), (1, .ref v1), (2, .int v2), (3, .int v3), (4, .int v4), (5, .int v5), (6, .int v6)] [] (hp g) Q := by
  unfold k_Address_takeSegment_79 at e
  refine wp_p (j := J_Address_takeSegment) 1 (pc' := 81) (lv' := [(0, .ref v0), (1, .ref v1), (2, .int v2), (3, .int v3), (4, .int v4), (5, .int v5), (6, .int v6)]) (st' := [.int v4]) rfl ?_
  refine z_ne e rfl (fun e => ?_) (fun e => ?_)
  · refine wp_p (j := J_Address_takeSegment) 1 (pc' := 85) (lv' := [(0, .ref v0), (1, .ref v1), (2, .int v2), (3, .int v3), (4, .int v4), (5, .int v5), (6, .int v6)]) (st' := [.int 1]) rfl ?_
    have e := Option.some.inj e; subst e; exact wp_iret (ty := .boolean) rfl rfl (by decide) c
  · exact wp_lv (lv' := [(0, .ref v0), (1, .ref v1), (2, .int v2), (3, .int v3), (5, .int v5), (6, .int v6)]) rfl ⟨rfl, rfl, rfl, rfl, rfl, rfl, trivial⟩ (x_Address_takeSegment_86 e c)
noncomputable def k_Address_takeSegment_69 (v0 : Nat) (v1 : Nat) (v2 : Int32) (v3 : Int32) (v4 : Int32) (v5 : Int32) (v6 : Int32) (g : g_S) : Option (Int32 × g_S) :=
  if v5 = 0 then
    if v6 = 0 then
      k_Address_takeSegment_86 v0 v1 v2 v3 v5 v6 g
    else
      k_Address_takeSegment_79 v0 v1 v2 v3 v4 v5 v6 g
  else
    k_Address_takeSegment_79 v0 v1 v2 v3 v4 v5 v6 g
set_option maxRecDepth 20000 in
theorem x_Address_takeSegment_69 {L : Nat} {xs : Nat → Int32} {Q : Option Value → ab_H → Prop} {v0 : Nat} {v1 : Nat} {v2 : Int32} {v3 : Int32} {v4 : Int32} {v5 : Int32} {v6 : Int32} {g : g_S} {out : Int32 × g_S} (e : k_Address_takeSegment_69 v0 v1 v2 v3 v4 v5 v6 g = some out) (c : Q (some (.int out.1)) (hp out.2)) : wp (ab_ext L xs) J_Address_takeSegment 69 [(0, .ref v0), (1, .ref v1), (2, .int v2), (3, .int v3), (4, .int v4), (5, .int v5), (6, .int v6)] [] (hp g) Q := by
  unfold k_Address_takeSegment_69 at e
  refine wp_p (j := J_Address_takeSegment) 1 (pc' := 71) (lv' := [(0, .ref v0), (1, .ref v1), (2, .int v2), (3, .int v3), (4, .int v4), (5, .int v5), (6, .int v6)]) (st' := [.int v5]) rfl ?_
  refine z_ne e rfl (fun e => ?_) (fun e => ?_)
  · refine wp_p (j := J_Address_takeSegment) 1 (pc' := 76) (lv' := [(0, .ref v0), (1, .ref v1), (2, .int v2), (3, .int v3), (4, .int v4), (5, .int v5), (6, .int v6)]) (st' := [.int v6]) rfl ?_
    refine z_eq e rfl (fun e => ?_) (fun e => ?_)
    · exact wp_lv (lv' := [(0, .ref v0), (1, .ref v1), (2, .int v2), (3, .int v3), (5, .int v5), (6, .int v6)]) rfl ⟨rfl, rfl, rfl, rfl, rfl, rfl, trivial⟩ (x_Address_takeSegment_86 e c)
    · exact wp_lv (lv' := [(0, .ref v0), (1, .ref v1), (2, .int v2), (3, .int v3), (4, .int v4), (5, .int v5), (6, .int v6)]) rfl ⟨rfl, rfl, rfl, rfl, rfl, rfl, rfl, trivial⟩ (x_Address_takeSegment_79 e c)
  · exact wp_lv (lv' := [(0, .ref v0), (1, .ref v1), (2, .int v2), (3, .int v3), (4, .int v4), (5, .int v5), (6, .int v6)]) rfl ⟨rfl, rfl, rfl, rfl, rfl, rfl, rfl, trivial⟩ (x_Address_takeSegment_79 e c)
noncomputable def k_Address_takeSegment_52 (v0 : Nat) (v1 : Nat) (v2 : Int32) (v3 : Int32) (v4 : Int32) (v5 : Int32) (w0 : Int32) (g : g_S) : Option (Int32 × g_S) :=
  if w0 = 0 then
    k_Address_takeSegment_69 v0 v1 v2 v3 v4 v5 w0 g
  else
    (rI g 101 v0 7).bind fun z1 =>
    (wI g 101 v0 7 (z1 + 1)).bind fun g2 =>
    k_Address_takeSegment_69 v0 v1 v2 v3 v4 v5 w0 g2
set_option maxRecDepth 20000 in
theorem x_Address_takeSegment_52 {L : Nat} {xs : Nat → Int32} {Q : Option Value → ab_H → Prop} {v0 : Nat} {v1 : Nat} {v2 : Int32} {v3 : Int32} {v4 : Int32} {v5 : Int32} {w0 : Int32} {g : g_S} {out : Int32 × g_S} (e : k_Address_takeSegment_52 v0 v1 v2 v3 v4 v5 w0 g = some out) (c : Q (some (.int out.1)) (hp out.2)) : wp (ab_ext L xs) J_Address_takeSegment 52 [(0, .ref v0), (1, .ref v1), (2, .int v2), (3, .int v3), (4, .int v4), (5, .int v5)] [.int w0] (hp g) Q := by
  unfold k_Address_takeSegment_52 at e
  refine wp_p (j := J_Address_takeSegment) 2 (pc' := 56) (lv' := [(6, .int w0), (0, .ref v0), (1, .ref v1), (2, .int v2), (3, .int v3), (4, .int v4), (5, .int v5)]) (st' := [.int w0]) rfl ?_
  refine z_eq e rfl (fun e => ?_) (fun e => ?_)
  · exact wp_lv (lv' := [(0, .ref v0), (1, .ref v1), (2, .int v2), (3, .int v3), (4, .int v4), (5, .int v5), (6, .int w0)]) rfl ⟨rfl, rfl, rfl, rfl, rfl, rfl, rfl, trivial⟩ (x_Address_takeSegment_69 e c)
  · refine wp_p (j := J_Address_takeSegment) 2 (pc' := 61) (lv' := [(6, .int w0), (0, .ref v0), (1, .ref v1), (2, .int v2), (3, .int v3), (4, .int v4), (5, .int v5)]) (st' := [.ref v0, .ref v0]) rfl ?_
    refine x_gI e rfl rfl fd_1_7 rfl (fun z1 e => ?_)
    refine wp_p (j := J_Address_takeSegment) 2 (pc' := 66) (lv' := [(6, .int w0), (0, .ref v0), (1, .ref v1), (2, .int v2), (3, .int v3), (4, .int v4), (5, .int v5)]) (st' := [.int (z1 + 1), .ref v0]) rfl ?_
    refine x_pI e rfl rfl fw_1_7 rfl (fun g2 e => ?_)
    exact wp_lv (lv' := [(0, .ref v0), (1, .ref v1), (2, .int v2), (3, .int v3), (4, .int v4), (5, .int v5), (6, .int w0)]) rfl ⟨rfl, rfl, rfl, rfl, rfl, rfl, rfl, trivial⟩ (x_Address_takeSegment_69 e c)
noncomputable def k_Address_takeSegment_51 (v0 : Nat) (v1 : Nat) (v2 : Int32) (v3 : Int32) (v4 : Int32) (v5 : Int32) (g : g_S) : Option (Int32 × g_S) :=
  k_Address_takeSegment_52 v0 v1 v2 v3 v4 v5 0 g
set_option maxRecDepth 20000 in
theorem x_Address_takeSegment_51 {L : Nat} {xs : Nat → Int32} {Q : Option Value → ab_H → Prop} {v0 : Nat} {v1 : Nat} {v2 : Int32} {v3 : Int32} {v4 : Int32} {v5 : Int32} {g : g_S} {out : Int32 × g_S} (e : k_Address_takeSegment_51 v0 v1 v2 v3 v4 v5 g = some out) (c : Q (some (.int out.1)) (hp out.2)) : wp (ab_ext L xs) J_Address_takeSegment 51 [(0, .ref v0), (1, .ref v1), (2, .int v2), (3, .int v3), (4, .int v4), (5, .int v5)] [] (hp g) Q := by
  unfold k_Address_takeSegment_51 at e
  refine wp_p (j := J_Address_takeSegment) 1 (pc' := 52) (lv' := [(0, .ref v0), (1, .ref v1), (2, .int v2), (3, .int v3), (4, .int v4), (5, .int v5)]) (st' := [.int 0]) rfl ?_
  exact wp_lv (lv' := [(0, .ref v0), (1, .ref v1), (2, .int v2), (3, .int v3), (4, .int v4), (5, .int v5)]) rfl ⟨rfl, rfl, rfl, rfl, rfl, rfl, trivial⟩ (x_Address_takeSegment_52 e c)
noncomputable def k_Address_takeSegment_20 (v0 : Nat) (v1 : Nat) (v2 : Int32) (v3 : Int32) (v4 : Int32) (w0 : Int32) (g : g_S) : Option (Int32 × g_S) :=
  if (v3 - v2) = 2 then
    (aI g 1 v1 v2).bind fun z1 =>
    if z1 = 46 then
      (aI g 1 v1 (v2 + 1)).bind fun z2 =>
      if z2 = 46 then
        k_Address_takeSegment_52 v0 v1 v2 v3 v4 w0 1 g
      else
        k_Address_takeSegment_51 v0 v1 v2 v3 v4 w0 g
    else
      k_Address_takeSegment_51 v0 v1 v2 v3 v4 w0 g
  else
    k_Address_takeSegment_51 v0 v1 v2 v3 v4 w0 g
set_option maxRecDepth 20000 in
theorem x_Address_takeSegment_20 {L : Nat} {xs : Nat → Int32} {Q : Option Value → ab_H → Prop} {v0 : Nat} {v1 : Nat} {v2 : Int32} {v3 : Int32} {v4 : Int32} {w0 : Int32} {g : g_S} {out : Int32 × g_S} (e : k_Address_takeSegment_20 v0 v1 v2 v3 v4 w0 g = some out) (c : Q (some (.int out.1)) (hp out.2)) : wp (ab_ext L xs) J_Address_takeSegment 20 [(0, .ref v0), (1, .ref v1), (2, .int v2), (3, .int v3), (4, .int v4)] [.int w0] (hp g) Q := by
  unfold k_Address_takeSegment_20 at e
  refine wp_p (j := J_Address_takeSegment) 5 (pc' := 26) (lv' := [(5, .int w0), (0, .ref v0), (1, .ref v1), (2, .int v2), (3, .int v3), (4, .int v4)]) (st' := [.int 2, .int (v3 - v2)]) rfl ?_
  refine x_ne e rfl (fun e => ?_) (fun e => ?_)
  · refine wp_p (j := J_Address_takeSegment) 2 (pc' := 31) (lv' := [(5, .int w0), (0, .ref v0), (1, .ref v1), (2, .int v2), (3, .int v3), (4, .int v4)]) (st' := [.int v2, .ref v1]) rfl ?_
    refine x_aB e rfl (.inl rfl) rfl (fun z1 e => ?_)
    refine wp_p (j := J_Address_takeSegment) 1 (pc' := 34) (lv' := [(5, .int w0), (0, .ref v0), (1, .ref v1), (2, .int v2), (3, .int v3), (4, .int v4)]) (st' := [.int 46, .int z1]) rfl ?_
    refine x_ne e rfl (fun e => ?_) (fun e => ?_)
    · refine wp_p (j := J_Address_takeSegment) 4 (pc' := 41) (lv' := [(5, .int w0), (0, .ref v0), (1, .ref v1), (2, .int v2), (3, .int v3), (4, .int v4)]) (st' := [.int (v2 + 1), .ref v1]) rfl ?_
      refine x_aB e rfl (.inl rfl) rfl (fun z2 e => ?_)
      refine wp_p (j := J_Address_takeSegment) 1 (pc' := 44) (lv' := [(5, .int w0), (0, .ref v0), (1, .ref v1), (2, .int v2), (3, .int v3), (4, .int v4)]) (st' := [.int 46, .int z2]) rfl ?_
      refine x_ne e rfl (fun e => ?_) (fun e => ?_)
      · refine wp_p (j := J_Address_takeSegment) 2 (pc' := 52) (lv' := [(5, .int w0), (0, .ref v0), (1, .ref v1), (2, .int v2), (3, .int v3), (4, .int v4)]) (st' := [.int 1]) rfl ?_
        exact wp_lv (lv' := [(0, .ref v0), (1, .ref v1), (2, .int v2), (3, .int v3), (4, .int v4), (5, .int w0)]) rfl ⟨rfl, rfl, rfl, rfl, rfl, rfl, trivial⟩ (x_Address_takeSegment_52 e c)
      · exact wp_lv (lv' := [(0, .ref v0), (1, .ref v1), (2, .int v2), (3, .int v3), (4, .int v4), (5, .int w0)]) rfl ⟨rfl, rfl, rfl, rfl, rfl, rfl, trivial⟩ (x_Address_takeSegment_51 e c)
    · exact wp_lv (lv' := [(0, .ref v0), (1, .ref v1), (2, .int v2), (3, .int v3), (4, .int v4), (5, .int w0)]) rfl ⟨rfl, rfl, rfl, rfl, rfl, rfl, trivial⟩ (x_Address_takeSegment_51 e c)
  · exact wp_lv (lv' := [(0, .ref v0), (1, .ref v1), (2, .int v2), (3, .int v3), (4, .int v4), (5, .int w0)]) rfl ⟨rfl, rfl, rfl, rfl, rfl, rfl, trivial⟩ (x_Address_takeSegment_51 e c)
noncomputable def k_Address_takeSegment_19 (v0 : Nat) (v1 : Nat) (v2 : Int32) (v3 : Int32) (v4 : Int32) (g : g_S) : Option (Int32 × g_S) :=
  k_Address_takeSegment_20 v0 v1 v2 v3 v4 0 g
set_option maxRecDepth 20000 in
theorem x_Address_takeSegment_19 {L : Nat} {xs : Nat → Int32} {Q : Option Value → ab_H → Prop} {v0 : Nat} {v1 : Nat} {v2 : Int32} {v3 : Int32} {v4 : Int32} {g : g_S} {out : Int32 × g_S} (e : k_Address_takeSegment_19 v0 v1 v2 v3 v4 g = some out) (c : Q (some (.int out.1)) (hp out.2)) : wp (ab_ext L xs) J_Address_takeSegment 19 [(0, .ref v0), (1, .ref v1), (2, .int v2), (3, .int v3), (4, .int v4)] [] (hp g) Q := by
  unfold k_Address_takeSegment_19 at e
  refine wp_p (j := J_Address_takeSegment) 1 (pc' := 20) (lv' := [(0, .ref v0), (1, .ref v1), (2, .int v2), (3, .int v3), (4, .int v4)]) (st' := [.int 0]) rfl ?_
  exact wp_lv (lv' := [(0, .ref v0), (1, .ref v1), (2, .int v2), (3, .int v3), (4, .int v4)]) rfl ⟨rfl, rfl, rfl, rfl, rfl, trivial⟩ (x_Address_takeSegment_20 e c)
noncomputable def M_Address_takeSegment (v0 : Nat) (v1 : Nat) (v2 : Int32) (v3 : Int32) (v4 : Int32) (g : g_S) : Option (Int32 × g_S) :=
  if (v3 - v2) = 1 then
    (aI g 1 v1 v2).bind fun z1 =>
    if z1 = 46 then
      k_Address_takeSegment_20 v0 v1 v2 v3 v4 1 g
    else
      k_Address_takeSegment_19 v0 v1 v2 v3 v4 g
  else
    k_Address_takeSegment_19 v0 v1 v2 v3 v4 g
set_option maxRecDepth 20000 in
theorem d_Address_takeSegment {L : Nat} {xs : Nat → Int32} {Q : Option Value → ab_H → Prop} {v0 : Nat} {v1 : Nat} {v2 : Int32} {v3 : Int32} {v4 : Int32} {g : g_S} {out : Int32 × g_S} (e : M_Address_takeSegment v0 v1 v2 v3 v4 g = some out) (c : Q (some (.int out.1)) (hp out.2)) : mw (ab_ext L xs) J_Address_takeSegment [.ref v0, .ref v1, .int v2, .int v3, .int v4] (hp g) Q := by
  unfold M_Address_takeSegment at e
  refine wp_p (j := J_Address_takeSegment) 4 (pc' := 4) (lv' := [(0, .ref v0), (1, .ref v1), (2, .int v2), (3, .int v3), (4, .int v4)]) (st' := [.int 1, .int (v3 - v2)]) rfl ?_
  refine x_ne e rfl (fun e => ?_) (fun e => ?_)
  · refine wp_p (j := J_Address_takeSegment) 2 (pc' := 9) (lv' := [(0, .ref v0), (1, .ref v1), (2, .int v2), (3, .int v3), (4, .int v4)]) (st' := [.int v2, .ref v1]) rfl ?_
    refine x_aB e rfl (.inl rfl) rfl (fun z1 e => ?_)
    refine wp_p (j := J_Address_takeSegment) 1 (pc' := 12) (lv' := [(0, .ref v0), (1, .ref v1), (2, .int v2), (3, .int v3), (4, .int v4)]) (st' := [.int 46, .int z1]) rfl ?_
    refine x_ne e rfl (fun e => ?_) (fun e => ?_)
    · refine wp_p (j := J_Address_takeSegment) 2 (pc' := 20) (lv' := [(0, .ref v0), (1, .ref v1), (2, .int v2), (3, .int v3), (4, .int v4)]) (st' := [.int 1]) rfl ?_
      exact wp_lv (lv' := [(0, .ref v0), (1, .ref v1), (2, .int v2), (3, .int v3), (4, .int v4)]) rfl ⟨rfl, rfl, rfl, rfl, rfl, trivial⟩ (x_Address_takeSegment_20 e c)
    · exact wp_lv (lv' := [(0, .ref v0), (1, .ref v1), (2, .int v2), (3, .int v3), (4, .int v4)]) rfl ⟨rfl, rfl, rfl, rfl, rfl, trivial⟩ (x_Address_takeSegment_19 e c)
  · exact wp_lv (lv' := [(0, .ref v0), (1, .ref v1), (2, .int v2), (3, .int v3), (4, .int v4)]) rfl ⟨rfl, rfl, rfl, rfl, rfl, trivial⟩ (x_Address_takeSegment_19 e c)
def cL_Address_takeSegments_8 (L : Nat) (xs : Nat → Int32) (Q : Option Value → ab_H → Prop) (v0 : Nat) (v1 : Nat) (v2 : Int32) (v4 : Int32) (out : (Int32 × Int32 × g_S) ⊕ ((g_S) ⊕ (g_S) ⊕ (Int32 × g_S))) : Prop := match out with
  | .inl s => wp (ab_ext L xs) J_Address_takeSegments 8 [(0, .ref v0), (1, .ref v1), (2, .int v2), (4, .int v4), (5, .int s.1), (6, .int s.2.1)] [] (hp s.2.2) Q
  | .inr (.inl s) => wp (ab_ext L xs) J_Address_takeSegments 49 [] [] (hp s) Q
  | .inr (.inr (.inl s)) => wp (ab_ext L xs) J_Address_takeSegments 68 [] [] (hp s) Q
  | .inr (.inr (.inr s)) => wp (ab_ext L xs) J_Address_takeSegments 76 [(0, .ref v0), (1, .ref v1), (2, .int v2), (4, .int v4), (5, .int s.1)] [] (hp s.2) Q
noncomputable def k_Address_takeSegments_43 (v0 : Nat) (v1 : Nat) (v2 : Int32) (v4 : Int32) (v6 : Int32) (w0 : Int32) (w1 : Int32) (w2 : Int32) (w3 : Nat) (w4 : Nat) (g : g_S) : Option ((Int32 × Int32 × g_S) ⊕ ((g_S) ⊕ (g_S) ⊕ (Int32 × g_S))) :=
  c2 (vc g 101 w4 (M_Address_takeSegment w4 w3 w2 w1 w0 g)) fun z1 g2 =>
  if z1 = 0 then
    some (.inr (.inl g2))
  else
    some (.inl (v6, v6 + (-1), g2))
set_option maxRecDepth 20000 in
theorem x_Address_takeSegments_43 {L : Nat} {xs : Nat → Int32} {Q : Option Value → ab_H → Prop} {v0 : Nat} {v1 : Nat} {v2 : Int32} {v4 : Int32} {v6 : Int32} {w0 : Int32} {w1 : Int32} {w2 : Int32} {w3 : Nat} {w4 : Nat} {g : g_S} {out : (Int32 × Int32 × g_S) ⊕ ((g_S) ⊕ (g_S) ⊕ (Int32 × g_S))} (e : k_Address_takeSegments_43 v0 v1 v2 v4 v6 w0 w1 w2 w3 w4 g = some out) (c : cL_Address_takeSegments_8 L xs Q v0 v1 v2 v4 out) : wp (ab_ext L xs) J_Address_takeSegments 43 [(0, .ref v0), (1, .ref v1), (2, .int v2), (4, .int v4), (6, .int v6)] [.int w0, .int w1, .int w2, .ref w3, .ref w4] (hp g) Q := by
  unfold k_Address_takeSegments_43 at e
  refine x_cv2 (As := [.ref w3, .int w2, .int w1, .int w0]) (rest := []) Value.int e rfl rfl rfl rfl rfl rfl (fun h => d_Address_takeSegment h ⟨rfl, rfl⟩) (fun z1 g2 e => ?_)
  refine z_ne e rfl (fun e => ?_) (fun e => ?_)
  · have e := Option.some.inj e; subst e; exact wp_lv (lv' := []) rfl trivial c
  · refine wp_p (j := J_Address_takeSegments) 5 (pc' := 8) (lv' := [(6, .int (v6 + (-1))), (5, .int v6), (0, .ref v0), (1, .ref v1), (2, .int v2), (4, .int v4)]) (st' := []) rfl ?_
    have e := Option.some.inj e; subst e; exact wp_lv (lv' := [(0, .ref v0), (1, .ref v1), (2, .int v2), (4, .int v4), (5, .int v6), (6, .int (v6 + (-1)))]) rfl ⟨rfl, rfl, rfl, rfl, rfl, rfl, trivial⟩ c
noncomputable def b_Address_takeSegments_8 (v0 : Nat) (v1 : Nat) (v2 : Int32) (v4 : Int32) (v5 : Int32) (v6 : Int32) (g : g_S) : Option ((Int32 × Int32 × g_S) ⊕ ((g_S) ⊕ (g_S) ⊕ (Int32 × g_S))) :=
  if v6 < v2 then
    some (.inr (.inr (.inr (v5, g))))
  else
    (aI g 1 v1 v6).bind fun z1 =>
    if z1 = 47 then
      if v5 = v4 then
        k_Address_takeSegments_43 v0 v1 v2 v4 v6 1 v5 (v6 + 1) v1 v0 g
      else
        k_Address_takeSegments_43 v0 v1 v2 v4 v6 0 v5 (v6 + 1) v1 v0 g
    else
      (aI g 1 v1 v6).bind fun z2 =>
      (M_Address_isSegmentByte z2 g).bind fun z3 =>
      if z3 = 0 then
        some (.inr (.inr (.inl g)))
      else
        some (.inl (v5, v6 + (-1), g))
set_option maxRecDepth 20000 in
theorem y_Address_takeSegments_8 {L : Nat} {xs : Nat → Int32} {Q : Option Value → ab_H → Prop} {v0 : Nat} {v1 : Nat} {v2 : Int32} {v4 : Int32} {v5 : Int32} {v6 : Int32} {g : g_S} {out : (Int32 × Int32 × g_S) ⊕ ((g_S) ⊕ (g_S) ⊕ (Int32 × g_S))} (e : b_Address_takeSegments_8 v0 v1 v2 v4 v5 v6 g = some out) (c : cL_Address_takeSegments_8 L xs Q v0 v1 v2 v4 out) : wp (ab_ext L xs) J_Address_takeSegments 8 [(0, .ref v0), (1, .ref v1), (2, .int v2), (4, .int v4), (5, .int v5), (6, .int v6)] [] (hp g) Q := by
  unfold b_Address_takeSegments_8 at e
  refine wp_p (j := J_Address_takeSegments) 2 (pc' := 11) (lv' := [(0, .ref v0), (1, .ref v1), (2, .int v2), (4, .int v4), (5, .int v5), (6, .int v6)]) (st' := [.int v2, .int v6]) rfl ?_
  refine x_lt e rfl (fun e => ?_) (fun e => ?_)
  · have e := Option.some.inj e; subst e; exact wp_lv (lv' := [(0, .ref v0), (1, .ref v1), (2, .int v2), (4, .int v4), (5, .int v5)]) rfl ⟨rfl, rfl, rfl, rfl, rfl, trivial⟩ c
  · refine wp_p (j := J_Address_takeSegments) 2 (pc' := 17) (lv' := [(0, .ref v0), (1, .ref v1), (2, .int v2), (4, .int v4), (5, .int v5), (6, .int v6)]) (st' := [.int v6, .ref v1]) rfl ?_
    refine x_aB e rfl (.inl rfl) rfl (fun z1 e => ?_)
    refine wp_p (j := J_Address_takeSegments) 1 (pc' := 20) (lv' := [(0, .ref v0), (1, .ref v1), (2, .int v2), (4, .int v4), (5, .int v5), (6, .int v6)]) (st' := [.int 47, .int z1]) rfl ?_
    refine x_ne e rfl (fun e => ?_) (fun e => ?_)
    · refine wp_p (j := J_Address_takeSegments) 8 (pc' := 35) (lv' := [(0, .ref v0), (1, .ref v1), (2, .int v2), (4, .int v4), (5, .int v5), (6, .int v6)]) (st' := [.int v4, .int v5, .int v5, .int (v6 + 1), .ref v1, .ref v0]) rfl ?_
      refine x_ne e rfl (fun e => ?_) (fun e => ?_)
      · refine wp_p (j := J_Address_takeSegments) 2 (pc' := 43) (lv' := [(0, .ref v0), (1, .ref v1), (2, .int v2), (4, .int v4), (5, .int v5), (6, .int v6)]) (st' := [.int 1, .int v5, .int (v6 + 1), .ref v1, .ref v0]) rfl ?_
        exact wp_lv (lv' := [(0, .ref v0), (1, .ref v1), (2, .int v2), (4, .int v4), (6, .int v6)]) rfl ⟨rfl, rfl, rfl, rfl, rfl, trivial⟩ (x_Address_takeSegments_43 e c)
      · refine wp_p (j := J_Address_takeSegments) 1 (pc' := 43) (lv' := [(0, .ref v0), (1, .ref v1), (2, .int v2), (4, .int v4), (5, .int v5), (6, .int v6)]) (st' := [.int 0, .int v5, .int (v6 + 1), .ref v1, .ref v0]) rfl ?_
        exact wp_lv (lv' := [(0, .ref v0), (1, .ref v1), (2, .int v2), (4, .int v4), (6, .int v6)]) rfl ⟨rfl, rfl, rfl, rfl, rfl, trivial⟩ (x_Address_takeSegments_43 e c)
    · refine wp_p (j := J_Address_takeSegments) 2 (pc' := 61) (lv' := [(0, .ref v0), (1, .ref v1), (2, .int v2), (4, .int v4), (5, .int v5), (6, .int v6)]) (st' := [.int v6, .ref v1]) rfl ?_
      refine x_aB e rfl (.inl rfl) rfl (fun z2 e => ?_)
      refine x_cs1 (As := [.int z2]) (rest := []) Value.int e rfl rfl rfl rfl rfl (fun h => d_Address_isSegmentByte h ⟨rfl, rfl⟩) (fun z3 e => ?_)
      refine z_ne e rfl (fun e => ?_) (fun e => ?_)
      · have e := Option.some.inj e; subst e; exact wp_lv (lv' := []) rfl trivial c
      · refine wp_p (j := J_Address_takeSegments) 2 (pc' := 8) (lv' := [(6, .int (v6 + (-1))), (0, .ref v0), (1, .ref v1), (2, .int v2), (4, .int v4), (5, .int v5)]) (st' := []) rfl ?_
        have e := Option.some.inj e; subst e; exact wp_lv (lv' := [(0, .ref v0), (1, .ref v1), (2, .int v2), (4, .int v4), (5, .int v5), (6, .int (v6 + (-1)))]) rfl ⟨rfl, rfl, rfl, rfl, rfl, rfl, trivial⟩ c
noncomputable def L_Address_takeSegments_8 (v0 : Nat) (v1 : Nat) (v2 : Int32) (v4 : Int32) (v5 : Int32) (v6 : Int32) (g : g_S) : Option ((g_S) ⊕ (g_S) ⊕ (Int32 × g_S)) := it (fun s : Int32 × Int32 × g_S => b_Address_takeSegments_8 v0 v1 v2 v4 s.1 s.2.1 s.2.2) (v5, v6, g)
theorem l_Address_takeSegments_8 {L : Nat} {xs : Nat → Int32} {Q : Option Value → ab_H → Prop} {v0 : Nat} {v1 : Nat} {v2 : Int32} {v4 : Int32} {v5 : Int32} {v6 : Int32} {g : g_S} {r : (g_S) ⊕ (g_S) ⊕ (Int32 × g_S)} (e : L_Address_takeSegments_8 v0 v1 v2 v4 v5 v6 g = some r) (c : cL_Address_takeSegments_8 L xs Q v0 v1 v2 v4 (.inr r)) : wp (ab_ext L xs) J_Address_takeSegments 8 [(0, .ref v0), (1, .ref v1), (2, .int v2), (4, .int v4), (5, .int v5), (6, .int v6)] [] (hp g) Q :=
  it_wp (P := fun s : Int32 × Int32 × g_S => wp (ab_ext L xs) J_Address_takeSegments 8 [(0, .ref v0), (1, .ref v1), (2, .int v2), (4, .int v4), (5, .int s.1), (6, .int s.2.1)] [] (hp s.2.2) Q) (E := fun r => cL_Address_takeSegments_8 L xs Q v0 v1 v2 v4 (.inr r)) (fun s out e c => y_Address_takeSegments_8 e (by cases out <;> exact c)) e c
theorem L_Address_takeSegments_8_eq (v0 : Nat) (v1 : Nat) (v2 : Int32) (v4 : Int32) (v5 : Int32) (v6 : Int32) (g : g_S) : L_Address_takeSegments_8 v0 v1 v2 v4 v5 v6 g = itc (b_Address_takeSegments_8 v0 v1 v2 v4 v5 v6 g) (fun s => L_Address_takeSegments_8 v0 v1 v2 v4 s.1 s.2.1 s.2.2) := it_eq2 (fun s : Int32 × Int32 × g_S => b_Address_takeSegments_8 v0 v1 v2 v4 s.1 s.2.1 s.2.2) (v5, v6, g)
noncomputable def k_Address_takeSegments_99 (w0 : Int32) (w1 : Int32) (w2 : Int32) (w3 : Nat) (w4 : Nat) (g : g_S) : Option (Int32 × g_S) :=
  c2 (vc g 101 w4 (M_Address_takeSegment w4 w3 w2 w1 w0 g)) fun z1 g2 =>
  if z1 = 0 then
    some (0, g2)
  else
    some (1, g2)
set_option maxRecDepth 20000 in
theorem x_Address_takeSegments_99 {L : Nat} {xs : Nat → Int32} {Q : Option Value → ab_H → Prop} {w0 : Int32} {w1 : Int32} {w2 : Int32} {w3 : Nat} {w4 : Nat} {g : g_S} {out : Int32 × g_S} (e : k_Address_takeSegments_99 w0 w1 w2 w3 w4 g = some out) (c : Q (some (.int out.1)) (hp out.2)) : wp (ab_ext L xs) J_Address_takeSegments 99 [] [.int w0, .int w1, .int w2, .ref w3, .ref w4] (hp g) Q := by
  unfold k_Address_takeSegments_99 at e
  refine x_cv2 (As := [.ref w3, .int w2, .int w1, .int w0]) (rest := []) Value.int e rfl rfl rfl rfl rfl rfl (fun h => d_Address_takeSegment h ⟨rfl, rfl⟩) (fun z1 g2 e => ?_)
  refine z_eq e rfl (fun e => ?_) (fun e => ?_)
  · refine wp_p (j := J_Address_takeSegments) 1 (pc' := 110) (lv' := []) (st' := [.int 0]) rfl ?_
    have e := Option.some.inj e; subst e; exact wp_iret (ty := .boolean) rfl rfl (by decide) c
  · refine wp_p (j := J_Address_takeSegments) 2 (pc' := 110) (lv' := []) (st' := [.int 1]) rfl ?_
    have e := Option.some.inj e; subst e; exact wp_iret (ty := .boolean) rfl rfl (by decide) c
noncomputable def M_Address_takeSegments (v0 : Nat) (v1 : Nat) (v2 : Int32) (v3 : Int32) (v4 : Int32) (g : g_S) : Option (Int32 × g_S) :=
  (L_Address_takeSegments_8 v0 v1 v2 v4 v3 (v3 - 1) g).bind <|
    us (fun g3 =>
    some (0, g3))
    (us (fun g4 =>
    some (0, g4))
    (u2 fun z5 g6 =>
    if z5 = v2 then
      some (1, g6)
    else
      if z5 = v4 then
        k_Address_takeSegments_99 1 z5 v2 v1 v0 g6
      else
        k_Address_takeSegments_99 0 z5 v2 v1 v0 g6))
set_option maxRecDepth 20000 in
theorem d_Address_takeSegments {L : Nat} {xs : Nat → Int32} {Q : Option Value → ab_H → Prop} {v0 : Nat} {v1 : Nat} {v2 : Int32} {v3 : Int32} {v4 : Int32} {g : g_S} {out : Int32 × g_S} (e : M_Address_takeSegments v0 v1 v2 v3 v4 g = some out) (c : Q (some (.int out.1)) (hp out.2)) : mw (ab_ext L xs) J_Address_takeSegments [.ref v0, .ref v1, .int v2, .int v3, .int v4] (hp g) Q := by
  unfold M_Address_takeSegments at e
  refine wp_p (j := J_Address_takeSegments) 6 (pc' := 8) (lv' := [(6, .int (v3 - 1)), (5, .int v3), (0, .ref v0), (1, .ref v1), (2, .int v2), (3, .int v3), (4, .int v4)]) (st' := []) rfl ?_
  obtain ⟨s1, h2, e⟩ := bd e
  refine wp_lv (lv' := [(0, .ref v0), (1, .ref v1), (2, .int v2), (4, .int v4), (5, .int v3), (6, .int (v3 - 1))]) rfl ⟨rfl, rfl, rfl, rfl, rfl, rfl, trivial⟩ ?_
  refine l_Address_takeSegments_8 h2 ?_
  rcases s1 with g3 | g4 | ⟨z5, g6⟩
  · replace e := (us_l e)
    show wp (ab_ext L xs) J_Address_takeSegments 49 [] [] (hp g3) Q
    refine wp_p (j := J_Address_takeSegments) 1 (pc' := 50) (lv' := []) (st' := [.int 0]) rfl ?_
    have e := Option.some.inj e; subst e; exact wp_iret (ty := .boolean) rfl rfl (by decide) c
  · replace e := (us_l (us_r e))
    show wp (ab_ext L xs) J_Address_takeSegments 68 [] [] (hp g4) Q
    refine wp_p (j := J_Address_takeSegments) 1 (pc' := 69) (lv' := []) (st' := [.int 0]) rfl ?_
    have e := Option.some.inj e; subst e; exact wp_iret (ty := .boolean) rfl rfl (by decide) c
  · replace e := (u2_e (us_r (us_r e)))
    show wp (ab_ext L xs) J_Address_takeSegments 76 [(0, .ref v0), (1, .ref v1), (2, .int v2), (4, .int v4), (5, .int z5)] [] (hp g6) Q
    refine wp_p (j := J_Address_takeSegments) 2 (pc' := 79) (lv' := [(0, .ref v0), (1, .ref v1), (2, .int v2), (4, .int v4), (5, .int z5)]) (st' := [.int v2, .int z5]) rfl ?_
    refine x_eq e rfl (fun e => ?_) (fun e => ?_)
    · refine wp_p (j := J_Address_takeSegments) 2 (pc' := 110) (lv' := [(0, .ref v0), (1, .ref v1), (2, .int v2), (4, .int v4), (5, .int z5)]) (st' := [.int 1]) rfl ?_
      have e := Option.some.inj e; subst e; exact wp_iret (ty := .boolean) rfl rfl (by decide) c
    · refine wp_p (j := J_Address_takeSegments) 6 (pc' := 91) (lv' := [(0, .ref v0), (1, .ref v1), (2, .int v2), (4, .int v4), (5, .int z5)]) (st' := [.int v4, .int z5, .int z5, .int v2, .ref v1, .ref v0]) rfl ?_
      refine x_ne e rfl (fun e => ?_) (fun e => ?_)
      · refine wp_p (j := J_Address_takeSegments) 2 (pc' := 99) (lv' := [(0, .ref v0), (1, .ref v1), (2, .int v2), (4, .int v4), (5, .int z5)]) (st' := [.int 1, .int z5, .int v2, .ref v1, .ref v0]) rfl ?_
        exact wp_lv (lv' := []) rfl trivial (x_Address_takeSegments_99 e c)
      · refine wp_p (j := J_Address_takeSegments) 1 (pc' := 99) (lv' := [(0, .ref v0), (1, .ref v1), (2, .int v2), (4, .int v4), (5, .int z5)]) (st' := [.int 0, .int z5, .int v2, .ref v1, .ref v0]) rfl ?_
        exact wp_lv (lv' := []) rfl trivial (x_Address_takeSegments_99 e c)
def cL_Address_lastSlash_7 (L : Nat) (xs : Nat → Int32) (Q : Option Value → ab_H → Prop) (v0 : Nat) (g : g_S) (out : (Int32) ⊕ (Int32)) : Prop := match out with
  | .inl s => wp (ab_ext L xs) J_Address_lastSlash 7 [(0, .ref v0), (1, .int s)] [] (hp g) Q
  | .inr s => wp (ab_ext L xs) J_Address_lastSlash 32 [(1, .int s)] [] (hp g) Q
noncomputable def b_Address_lastSlash_7 (v0 : Nat) (v1 : Int32) (g : g_S) : Option ((Int32) ⊕ (Int32)) :=
  (rI g 101 v0 2).bind fun z1 =>
  if z1 < v1 then
    (rQ g 101 v0 0).bind fun z2 =>
    (aI g 1 z2 v1).bind fun z3 =>
    if z3 = 47 then
      some (.inr v1)
    else
      some (.inl (v1 + (-1)))
  else
    some (.inr v1)
set_option maxRecDepth 20000 in
theorem y_Address_lastSlash_7 {L : Nat} {xs : Nat → Int32} {Q : Option Value → ab_H → Prop} {v0 : Nat} {v1 : Int32} {g : g_S} {out : (Int32) ⊕ (Int32)} (e : b_Address_lastSlash_7 v0 v1 g = some out) (c : cL_Address_lastSlash_7 L xs Q v0 g out) : wp (ab_ext L xs) J_Address_lastSlash 7 [(0, .ref v0), (1, .int v1)] [] (hp g) Q := by
  unfold b_Address_lastSlash_7 at e
  refine wp_p (j := J_Address_lastSlash) 2 (pc' := 9) (lv' := [(0, .ref v0), (1, .int v1)]) (st' := [.ref v0, .int v1]) rfl ?_
  refine x_gI e rfl rfl fd_1_2 rfl (fun z1 e => ?_)
  refine x_le e rfl (fun e => ?_) (fun e => ?_)
  · refine wp_p (j := J_Address_lastSlash) 1 (pc' := 16) (lv' := [(0, .ref v0), (1, .int v1)]) (st' := [.ref v0]) rfl ?_
    refine x_gQ e rfl rfl fd_1_0 rfl (fun z2 e => ?_)
    refine wp_p (j := J_Address_lastSlash) 1 (pc' := 20) (lv' := [(0, .ref v0), (1, .int v1)]) (st' := [.int v1, .ref z2]) rfl ?_
    refine x_aB e rfl (.inl rfl) rfl (fun z3 e => ?_)
    refine wp_p (j := J_Address_lastSlash) 1 (pc' := 23) (lv' := [(0, .ref v0), (1, .int v1)]) (st' := [.int 47, .int z3]) rfl ?_
    refine x_eq e rfl (fun e => ?_) (fun e => ?_)
    · have e := Option.some.inj e; subst e; exact wp_lv (lv' := [(1, .int v1)]) rfl ⟨rfl, trivial⟩ c
    · refine wp_p (j := J_Address_lastSlash) 2 (pc' := 7) (lv' := [(1, .int (v1 + (-1))), (0, .ref v0)]) (st' := []) rfl ?_
      have e := Option.some.inj e; subst e; exact wp_lv (lv' := [(0, .ref v0), (1, .int (v1 + (-1)))]) rfl ⟨rfl, rfl, trivial⟩ c
  · have e := Option.some.inj e; subst e; exact wp_lv (lv' := [(1, .int v1)]) rfl ⟨rfl, trivial⟩ c
noncomputable def L_Address_lastSlash_7 (v0 : Nat) (v1 : Int32) (g : g_S) : Option (Int32) := it (fun s : Int32 => b_Address_lastSlash_7 v0 s g) (v1)
theorem l_Address_lastSlash_7 {L : Nat} {xs : Nat → Int32} {Q : Option Value → ab_H → Prop} {v0 : Nat} {v1 : Int32} {g : g_S} {r : Int32} (e : L_Address_lastSlash_7 v0 v1 g = some r) (c : cL_Address_lastSlash_7 L xs Q v0 g (.inr r)) : wp (ab_ext L xs) J_Address_lastSlash 7 [(0, .ref v0), (1, .int v1)] [] (hp g) Q :=
  it_wp (P := fun s : Int32 => wp (ab_ext L xs) J_Address_lastSlash 7 [(0, .ref v0), (1, .int s)] [] (hp g) Q) (E := fun r => cL_Address_lastSlash_7 L xs Q v0 g (.inr r)) (fun s out e c => y_Address_lastSlash_7 e (by cases out <;> exact c)) e c
theorem L_Address_lastSlash_7_eq (v0 : Nat) (v1 : Int32) (g : g_S) : L_Address_lastSlash_7 v0 v1 g = itc (b_Address_lastSlash_7 v0 v1 g) (fun s => L_Address_lastSlash_7 v0 s g) := it_eq2 (fun s : Int32 => b_Address_lastSlash_7 v0 s g) (v1)
noncomputable def M_Address_lastSlash (v0 : Nat) (g : g_S) : Option Int32 :=
  (rI g 101 v0 3).bind fun z1 =>
  (L_Address_lastSlash_7 v0 (z1 - 1) g).bind <| fun z4 =>
  some z4
set_option maxRecDepth 20000 in
theorem d_Address_lastSlash {L : Nat} {xs : Nat → Int32} {Q : Option Value → ab_H → Prop} {v0 : Nat} {g : g_S} {out : Int32} (e : M_Address_lastSlash v0 g = some out) (c : Q (some (.int out)) (hp g)) : mw (ab_ext L xs) J_Address_lastSlash [.ref v0] (hp g) Q := by
  unfold M_Address_lastSlash at e
  refine wp_p (j := J_Address_lastSlash) 1 (pc' := 1) (lv' := [(0, .ref v0)]) (st' := [.ref v0]) rfl ?_
  refine x_gI e rfl rfl fd_1_3 rfl (fun z1 e => ?_)
  refine wp_p (j := J_Address_lastSlash) 3 (pc' := 7) (lv' := [(1, .int (z1 - 1)), (0, .ref v0)]) (st' := []) rfl ?_
  obtain ⟨z4, h3, e⟩ := bd e
  refine wp_lv (lv' := [(0, .ref v0), (1, .int (z1 - 1))]) rfl ⟨rfl, rfl, trivial⟩ ?_
  refine l_Address_lastSlash_7 h3 ?_
  show wp (ab_ext L xs) J_Address_lastSlash 32 [(1, .int z4)] [] (hp g) Q
  refine wp_p (j := J_Address_lastSlash) 1 (pc' := 33) (lv' := [(1, .int z4)]) (st' := [.int z4]) rfl ?_
  have e := Option.some.inj e; subst e; exact wp_iret (ty := .int) rfl rfl rfl c
def cL_Address_read_53 (L : Nat) (xs : Nat → Int32) (Q : Option Value → ab_H → Prop) (v0 : Nat) (v1 : Nat) (v2 : Int32) (v3 : Int32) (v4 : Nat) (v5 : Int32) (g : g_S) (out : (Int32) ⊕ (Int32)) : Prop := match out with
  | .inl s => wp (ab_ext L xs) J_Address_read 53 [(0, .ref v0), (1, .ref v1), (2, .int v2), (3, .int v3), (4, .ref v4), (5, .int v5), (6, .int s)] [] (hp g) Q
  | .inr s => wp (ab_ext L xs) J_Address_read 75 [(0, .ref v0), (1, .ref v1), (2, .int v2), (3, .int v3), (4, .ref v4), (5, .int v5), (6, .int s)] [] (hp g) Q
noncomputable def b_Address_read_53 (v0 : Nat) (v1 : Nat) (v2 : Int32) (v3 : Int32) (v4 : Nat) (v5 : Int32) (v6 : Int32) (g : g_S) : Option ((Int32) ⊕ (Int32)) :=
  if v6 < v5 then
    (aI g 1 v1 v6).bind fun z1 =>
    if z1 = 47 then
      some (.inr v6)
    else
      some (.inl (v6 + 1))
  else
    some (.inr v6)
set_option maxRecDepth 20000 in
theorem y_Address_read_53 {L : Nat} {xs : Nat → Int32} {Q : Option Value → ab_H → Prop} {v0 : Nat} {v1 : Nat} {v2 : Int32} {v3 : Int32} {v4 : Nat} {v5 : Int32} {v6 : Int32} {g : g_S} {out : (Int32) ⊕ (Int32)} (e : b_Address_read_53 v0 v1 v2 v3 v4 v5 v6 g = some out) (c : cL_Address_read_53 L xs Q v0 v1 v2 v3 v4 v5 g out) : wp (ab_ext L xs) J_Address_read 53 [(0, .ref v0), (1, .ref v1), (2, .int v2), (3, .int v3), (4, .ref v4), (5, .int v5), (6, .int v6)] [] (hp g) Q := by
  unfold b_Address_read_53 at e
  refine wp_p (j := J_Address_read) 2 (pc' := 57) (lv' := [(0, .ref v0), (1, .ref v1), (2, .int v2), (3, .int v3), (4, .ref v4), (5, .int v5), (6, .int v6)]) (st' := [.int v5, .int v6]) rfl ?_
  refine x_ge e rfl (fun e => ?_) (fun e => ?_)
  · refine wp_p (j := J_Address_read) 2 (pc' := 63) (lv' := [(0, .ref v0), (1, .ref v1), (2, .int v2), (3, .int v3), (4, .ref v4), (5, .int v5), (6, .int v6)]) (st' := [.int v6, .ref v1]) rfl ?_
    refine x_aB e rfl (.inl rfl) rfl (fun z1 e => ?_)
    refine wp_p (j := J_Address_read) 1 (pc' := 66) (lv' := [(0, .ref v0), (1, .ref v1), (2, .int v2), (3, .int v3), (4, .ref v4), (5, .int v5), (6, .int v6)]) (st' := [.int 47, .int z1]) rfl ?_
    refine x_eq e rfl (fun e => ?_) (fun e => ?_)
    · have e := Option.some.inj e; subst e; exact wp_lv (lv' := [(0, .ref v0), (1, .ref v1), (2, .int v2), (3, .int v3), (4, .ref v4), (5, .int v5), (6, .int v6)]) rfl ⟨rfl, rfl, rfl, rfl, rfl, rfl, rfl, trivial⟩ c
    · refine wp_p (j := J_Address_read) 2 (pc' := 53) (lv' := [(6, .int (v6 + 1)), (0, .ref v0), (1, .ref v1), (2, .int v2), (3, .int v3), (4, .ref v4), (5, .int v5)]) (st' := []) rfl ?_
      have e := Option.some.inj e; subst e; exact wp_lv (lv' := [(0, .ref v0), (1, .ref v1), (2, .int v2), (3, .int v3), (4, .ref v4), (5, .int v5), (6, .int (v6 + 1))]) rfl ⟨rfl, rfl, rfl, rfl, rfl, rfl, rfl, trivial⟩ c
  · have e := Option.some.inj e; subst e; exact wp_lv (lv' := [(0, .ref v0), (1, .ref v1), (2, .int v2), (3, .int v3), (4, .ref v4), (5, .int v5), (6, .int v6)]) rfl ⟨rfl, rfl, rfl, rfl, rfl, rfl, rfl, trivial⟩ c
noncomputable def L_Address_read_53 (v0 : Nat) (v1 : Nat) (v2 : Int32) (v3 : Int32) (v4 : Nat) (v5 : Int32) (v6 : Int32) (g : g_S) : Option (Int32) := it (fun s : Int32 => b_Address_read_53 v0 v1 v2 v3 v4 v5 s g) (v6)
theorem l_Address_read_53 {L : Nat} {xs : Nat → Int32} {Q : Option Value → ab_H → Prop} {v0 : Nat} {v1 : Nat} {v2 : Int32} {v3 : Int32} {v4 : Nat} {v5 : Int32} {v6 : Int32} {g : g_S} {r : Int32} (e : L_Address_read_53 v0 v1 v2 v3 v4 v5 v6 g = some r) (c : cL_Address_read_53 L xs Q v0 v1 v2 v3 v4 v5 g (.inr r)) : wp (ab_ext L xs) J_Address_read 53 [(0, .ref v0), (1, .ref v1), (2, .int v2), (3, .int v3), (4, .ref v4), (5, .int v5), (6, .int v6)] [] (hp g) Q :=
  it_wp (P := fun s : Int32 => wp (ab_ext L xs) J_Address_read 53 [(0, .ref v0), (1, .ref v1), (2, .int v2), (3, .int v3), (4, .ref v4), (5, .int v5), (6, .int s)] [] (hp g) Q) (E := fun r => cL_Address_read_53 L xs Q v0 v1 v2 v3 v4 v5 g (.inr r)) (fun s out e c => y_Address_read_53 e (by cases out <;> exact c)) e c
theorem L_Address_read_53_eq (v0 : Nat) (v1 : Nat) (v2 : Int32) (v3 : Int32) (v4 : Nat) (v5 : Int32) (v6 : Int32) (g : g_S) : L_Address_read_53 v0 v1 v2 v3 v4 v5 v6 g = itc (b_Address_read_53 v0 v1 v2 v3 v4 v5 v6 g) (fun s => L_Address_read_53 v0 v1 v2 v3 v4 v5 s g) := it_eq2 (fun s : Int32 => b_Address_read_53 v0 v1 v2 v3 v4 v5 s g) (v6)
def cL_Address_read_3 (L : Nat) (xs : Nat → Int32) (Q : Option Value → ab_H → Prop) (v0 : Nat) (v1 : Nat) (v2 : Int32) (v3 : Int32) (v4 : Nat) (g : g_S) (out : (Int32) ⊕ (Int32)) : Prop := match out with
  | .inl s => wp (ab_ext L xs) J_Address_read 3 [(0, .ref v0), (1, .ref v1), (2, .int v2), (3, .int v3), (4, .ref v4), (5, .int s)] [] (hp g) Q
  | .inr s => wp (ab_ext L xs) J_Address_read 33 [(0, .ref v0), (1, .ref v1), (2, .int v2), (3, .int v3), (4, .ref v4), (5, .int s)] [] (hp g) Q
noncomputable def b_Address_read_3 (v0 : Nat) (v1 : Nat) (v2 : Int32) (v3 : Int32) (v4 : Nat) (v5 : Int32) (g : g_S) : Option ((Int32) ⊕ (Int32)) :=
  if v5 < v3 then
    (aI g 1 v1 v5).bind fun z1 =>
    if z1 = 63 then
      some (.inr v5)
    else
      (aI g 1 v1 v5).bind fun z2 =>
      if z2 = 35 then
        some (.inr v5)
      else
        some (.inl (v5 + 1))
  else
    some (.inr v5)
set_option maxRecDepth 20000 in
theorem y_Address_read_3 {L : Nat} {xs : Nat → Int32} {Q : Option Value → ab_H → Prop} {v0 : Nat} {v1 : Nat} {v2 : Int32} {v3 : Int32} {v4 : Nat} {v5 : Int32} {g : g_S} {out : (Int32) ⊕ (Int32)} (e : b_Address_read_3 v0 v1 v2 v3 v4 v5 g = some out) (c : cL_Address_read_3 L xs Q v0 v1 v2 v3 v4 g out) : wp (ab_ext L xs) J_Address_read 3 [(0, .ref v0), (1, .ref v1), (2, .int v2), (3, .int v3), (4, .ref v4), (5, .int v5)] [] (hp g) Q := by
  unfold b_Address_read_3 at e
  refine wp_p (j := J_Address_read) 2 (pc' := 6) (lv' := [(0, .ref v0), (1, .ref v1), (2, .int v2), (3, .int v3), (4, .ref v4), (5, .int v5)]) (st' := [.int v3, .int v5]) rfl ?_
  refine x_ge e rfl (fun e => ?_) (fun e => ?_)
  · refine wp_p (j := J_Address_read) 2 (pc' := 12) (lv' := [(0, .ref v0), (1, .ref v1), (2, .int v2), (3, .int v3), (4, .ref v4), (5, .int v5)]) (st' := [.int v5, .ref v1]) rfl ?_
    refine x_aB e rfl (.inl rfl) rfl (fun z1 e => ?_)
    refine wp_p (j := J_Address_read) 1 (pc' := 15) (lv' := [(0, .ref v0), (1, .ref v1), (2, .int v2), (3, .int v3), (4, .ref v4), (5, .int v5)]) (st' := [.int 63, .int z1]) rfl ?_
    refine x_eq e rfl (fun e => ?_) (fun e => ?_)
    · have e := Option.some.inj e; subst e; exact wp_lv (lv' := [(0, .ref v0), (1, .ref v1), (2, .int v2), (3, .int v3), (4, .ref v4), (5, .int v5)]) rfl ⟨rfl, rfl, rfl, rfl, rfl, rfl, trivial⟩ c
    · refine wp_p (j := J_Address_read) 2 (pc' := 21) (lv' := [(0, .ref v0), (1, .ref v1), (2, .int v2), (3, .int v3), (4, .ref v4), (5, .int v5)]) (st' := [.int v5, .ref v1]) rfl ?_
      refine x_aB e rfl (.inl rfl) rfl (fun z2 e => ?_)
      refine wp_p (j := J_Address_read) 1 (pc' := 24) (lv' := [(0, .ref v0), (1, .ref v1), (2, .int v2), (3, .int v3), (4, .ref v4), (5, .int v5)]) (st' := [.int 35, .int z2]) rfl ?_
      refine x_eq e rfl (fun e => ?_) (fun e => ?_)
      · have e := Option.some.inj e; subst e; exact wp_lv (lv' := [(0, .ref v0), (1, .ref v1), (2, .int v2), (3, .int v3), (4, .ref v4), (5, .int v5)]) rfl ⟨rfl, rfl, rfl, rfl, rfl, rfl, trivial⟩ c
      · refine wp_p (j := J_Address_read) 2 (pc' := 3) (lv' := [(5, .int (v5 + 1)), (0, .ref v0), (1, .ref v1), (2, .int v2), (3, .int v3), (4, .ref v4)]) (st' := []) rfl ?_
        have e := Option.some.inj e; subst e; exact wp_lv (lv' := [(0, .ref v0), (1, .ref v1), (2, .int v2), (3, .int v3), (4, .ref v4), (5, .int (v5 + 1))]) rfl ⟨rfl, rfl, rfl, rfl, rfl, rfl, trivial⟩ c
  · have e := Option.some.inj e; subst e; exact wp_lv (lv' := [(0, .ref v0), (1, .ref v1), (2, .int v2), (3, .int v3), (4, .ref v4), (5, .int v5)]) rfl ⟨rfl, rfl, rfl, rfl, rfl, rfl, trivial⟩ c
noncomputable def L_Address_read_3 (v0 : Nat) (v1 : Nat) (v2 : Int32) (v3 : Int32) (v4 : Nat) (v5 : Int32) (g : g_S) : Option (Int32) := it (fun s : Int32 => b_Address_read_3 v0 v1 v2 v3 v4 s g) (v5)
theorem l_Address_read_3 {L : Nat} {xs : Nat → Int32} {Q : Option Value → ab_H → Prop} {v0 : Nat} {v1 : Nat} {v2 : Int32} {v3 : Int32} {v4 : Nat} {v5 : Int32} {g : g_S} {r : Int32} (e : L_Address_read_3 v0 v1 v2 v3 v4 v5 g = some r) (c : cL_Address_read_3 L xs Q v0 v1 v2 v3 v4 g (.inr r)) : wp (ab_ext L xs) J_Address_read 3 [(0, .ref v0), (1, .ref v1), (2, .int v2), (3, .int v3), (4, .ref v4), (5, .int v5)] [] (hp g) Q :=
  it_wp (P := fun s : Int32 => wp (ab_ext L xs) J_Address_read 3 [(0, .ref v0), (1, .ref v1), (2, .int v2), (3, .int v3), (4, .ref v4), (5, .int s)] [] (hp g) Q) (E := fun r => cL_Address_read_3 L xs Q v0 v1 v2 v3 v4 g (.inr r)) (fun s out e c => y_Address_read_3 e (by cases out <;> exact c)) e c
theorem L_Address_read_3_eq (v0 : Nat) (v1 : Nat) (v2 : Int32) (v3 : Int32) (v4 : Nat) (v5 : Int32) (g : g_S) : L_Address_read_3 v0 v1 v2 v3 v4 v5 g = itc (b_Address_read_3 v0 v1 v2 v3 v4 v5 g) (fun s => L_Address_read_3 v0 v1 v2 v3 v4 s g) := it_eq2 (fun s : Int32 => b_Address_read_3 v0 v1 v2 v3 v4 s g) (v5)
noncomputable def k_Address_read_239 (v0 : Nat) (v1 : Nat) (v3 : Int32) (v5 : Int32) (g : g_S) : Option (Int32 × g_S) :=
  (rQ g 101 v0 0).bind fun z1 =>
  (rI g 101 v0 5).bind fun z2 =>
  (vc g 101 v0 (M_Address_takePath v0 z1 z2 160 g)).bind fun g3 =>
  c2 (vc g3 101 v0 (M_Address_readTail v0 v1 v5 v3 none g3)) fun z4 g5 =>
  (tz z4).bind fun z6 =>
  some (z6, g5)
set_option maxRecDepth 20000 in
theorem x_Address_read_239 {L : Nat} {xs : Nat → Int32} {Q : Option Value → ab_H → Prop} {v0 : Nat} {v1 : Nat} {v3 : Int32} {v5 : Int32} {g : g_S} {out : Int32 × g_S} (e : k_Address_read_239 v0 v1 v3 v5 g = some out) (c : Q (some (.int out.1)) (hp out.2)) : wp (ab_ext L xs) J_Address_read 239 [(0, .ref v0), (1, .ref v1), (3, .int v3), (5, .int v5)] [] (hp g) Q := by
  unfold k_Address_read_239 at e
  refine wp_p (j := J_Address_read) 2 (pc' := 241) (lv' := [(0, .ref v0), (1, .ref v1), (3, .int v3), (5, .int v5)]) (st' := [.ref v0, .ref v0]) rfl ?_
  refine x_gQ e rfl rfl fd_1_0 rfl (fun z1 e => ?_)
  refine wp_p (j := J_Address_read) 1 (pc' := 245) (lv' := [(0, .ref v0), (1, .ref v1), (3, .int v3), (5, .int v5)]) (st' := [.ref v0, .ref z1, .ref v0]) rfl ?_
  refine x_gI e rfl rfl fd_1_5 rfl (fun z2 e => ?_)
  refine wp_p (j := J_Address_read) 1 (pc' := 251) (lv' := [(0, .ref v0), (1, .ref v1), (3, .int v3), (5, .int v5)]) (st' := [.int 160, .int z2, .ref z1, .ref v0]) rfl ?_
  refine x_cv0 (As := [.ref z1, .int z2, .int 160]) (rest := []) e rfl rfl rfl rfl rfl rfl (fun h => d_Address_takePath h ⟨rfl, rfl⟩) (fun g3 e => ?_)
  refine wp_p (j := J_Address_read) 5 (pc' := 260) (lv' := [(0, .ref v0), (1, .ref v1), (3, .int v3), (5, .int v5)]) (st' := [.null, .int v3, .int v5, .ref v1, .ref v0]) rfl ?_
  refine x_cv2 (As := [.ref v1, .int v5, .int v3, va_rf none]) (rest := []) Value.int e rfl rfl rfl rfl rfl rfl (fun h => d_Address_readTail h ⟨rfl, rfl⟩) (fun z4 g5 e => ?_)
  obtain ⟨h7, e⟩ := tz_ok e
  have e := Option.some.inj e; subst e; exact wp_iret (ty := .boolean) rfl rfl h7 c
noncomputable def k_Address_read_221 (v0 : Nat) (v1 : Nat) (v3 : Int32) (v5 : Int32) (v6 : Int32) (g : g_S) : Option (Int32 × g_S) :=
  (rI g 101 v0 6).bind fun z1 =>
  if z1 = 0 then
    c2 (vc g 101 v0 (M_Address_takeSegment v0 v1 v6 v6 0 g)) fun z2 g3 =>
    k_Address_read_239 v0 v1 v3 v5 g3
  else
    k_Address_read_239 v0 v1 v3 v5 g
set_option maxRecDepth 20000 in
theorem x_Address_read_221 {L : Nat} {xs : Nat → Int32} {Q : Option Value → ab_H → Prop} {v0 : Nat} {v1 : Nat} {v3 : Int32} {v5 : Int32} {v6 : Int32} {g : g_S} {out : Int32 × g_S} (e : k_Address_read_221 v0 v1 v3 v5 v6 g = some out) (c : Q (some (.int out.1)) (hp out.2)) : wp (ab_ext L xs) J_Address_read 221 [(0, .ref v0), (1, .ref v1), (3, .int v3), (5, .int v5), (6, .int v6)] [] (hp g) Q := by
  unfold k_Address_read_221 at e
  refine wp_p (j := J_Address_read) 1 (pc' := 222) (lv' := [(0, .ref v0), (1, .ref v1), (3, .int v3), (5, .int v5), (6, .int v6)]) (st' := [.ref v0]) rfl ?_
  refine x_gI e rfl rfl fd_1_6 rfl (fun z1 e => ?_)
  refine z_ne e rfl (fun e => ?_) (fun e => ?_)
  · refine wp_p (j := J_Address_read) 5 (pc' := 235) (lv' := [(0, .ref v0), (1, .ref v1), (3, .int v3), (5, .int v5), (6, .int v6)]) (st' := [.int 0, .int v6, .int v6, .ref v1, .ref v0]) rfl ?_
    refine x_cv2 (As := [.ref v1, .int v6, .int v6, .int 0]) (rest := []) Value.int e rfl rfl rfl rfl rfl rfl (fun h => d_Address_takeSegment h ⟨rfl, rfl⟩) (fun z2 g3 e => ?_)
    refine wp_p (j := J_Address_read) 1 (pc' := 239) (lv' := [(0, .ref v0), (1, .ref v1), (3, .int v3), (5, .int v5), (6, .int v6)]) (st' := []) rfl ?_
    exact wp_lv (lv' := [(0, .ref v0), (1, .ref v1), (3, .int v3), (5, .int v5)]) rfl ⟨rfl, rfl, rfl, rfl, trivial⟩ (x_Address_read_239 e c)
  · exact wp_lv (lv' := [(0, .ref v0), (1, .ref v1), (3, .int v3), (5, .int v5)]) rfl ⟨rfl, rfl, rfl, rfl, trivial⟩ (x_Address_read_239 e c)
noncomputable def k_Address_read_115 (v0 : Nat) (v1 : Nat) (v2 : Int32) (v3 : Int32) (v4 : Nat) (v5 : Int32) (v6 : Int32) (g : g_S) : Option (Int32 × g_S) :=
  if v2 = v5 then
    (rQ g 101 v4 0).bind fun z1 =>
    (rI g 101 v4 2).bind fun z2 =>
    (rI g 101 v4 3).bind fun z3 =>
    (vc g 101 v0 (M_Address_takePath v0 z1 z2 z3 g)).bind fun g4 =>
    c2 (vc g4 101 v0 (M_Address_readTail v0 v1 v5 v3 (some v4) g4)) fun z5 g6 =>
    (tz z5).bind fun z7 =>
    some (z7, g6)
  else
    (wI g 101 v0 5 160).bind fun g9 =>
    (wI g9 101 v0 6 0).bind fun g10 =>
    (wI g10 101 v0 7 0).bind fun g11 =>
    c2 (vc g11 101 v0 (M_Address_takeSegments v0 v1 v6 v5 v5 g11)) fun z12 g13 =>
    if z12 = 0 then
      some (0, g13)
    else
      (aI g13 1 v1 v2).bind fun z14 =>
      if z14 = 47 then
        k_Address_read_221 v0 v1 v3 v5 v6 g13
      else
        (rQ g13 101 v4 0).bind fun z15 =>
        (rI g13 101 v4 2).bind fun z16 =>
        (vc g13 101 v4 (M_Address_lastSlash v4 g13)).bind fun z17 =>
        (rI g13 101 v4 3).bind fun z18 =>
        c2 (vc g13 101 v0 (M_Address_takeSegments v0 z15 z16 z17 z18 g13)) fun z19 g20 =>
        if z19 = 0 then
          some (0, g20)
        else
          k_Address_read_221 v0 v1 v3 v5 v6 g20
set_option maxRecDepth 20000 in
theorem x_Address_read_115 {L : Nat} {xs : Nat → Int32} {Q : Option Value → ab_H → Prop} {v0 : Nat} {v1 : Nat} {v2 : Int32} {v3 : Int32} {v4 : Nat} {v5 : Int32} {v6 : Int32} {g : g_S} {out : Int32 × g_S} (e : k_Address_read_115 v0 v1 v2 v3 v4 v5 v6 g = some out) (c : Q (some (.int out.1)) (hp out.2)) : wp (ab_ext L xs) J_Address_read 115 [(0, .ref v0), (1, .ref v1), (2, .int v2), (3, .int v3), (4, .ref v4), (5, .int v5), (6, .int v6)] [] (hp g) Q := by
  unfold k_Address_read_115 at e
  refine wp_p (j := J_Address_read) 2 (pc' := 118) (lv' := [(0, .ref v0), (1, .ref v1), (2, .int v2), (3, .int v3), (4, .ref v4), (5, .int v5), (6, .int v6)]) (st' := [.int v5, .int v2]) rfl ?_
  refine x_ne e rfl (fun e => ?_) (fun e => ?_)
  · refine wp_p (j := J_Address_read) 2 (pc' := 124) (lv' := [(0, .ref v0), (1, .ref v1), (2, .int v2), (3, .int v3), (4, .ref v4), (5, .int v5), (6, .int v6)]) (st' := [.ref v4, .ref v0]) rfl ?_
    refine x_gQ e rfl rfl fd_1_0 rfl (fun z1 e => ?_)
    refine wp_p (j := J_Address_read) 1 (pc' := 129) (lv' := [(0, .ref v0), (1, .ref v1), (2, .int v2), (3, .int v3), (4, .ref v4), (5, .int v5), (6, .int v6)]) (st' := [.ref v4, .ref z1, .ref v0]) rfl ?_
    refine x_gI e rfl rfl fd_1_2 rfl (fun z2 e => ?_)
    refine wp_p (j := J_Address_read) 1 (pc' := 134) (lv' := [(0, .ref v0), (1, .ref v1), (2, .int v2), (3, .int v3), (4, .ref v4), (5, .int v5), (6, .int v6)]) (st' := [.ref v4, .int z2, .ref z1, .ref v0]) rfl ?_
    refine x_gI e rfl rfl fd_1_3 rfl (fun z3 e => ?_)
    refine x_cv0 (As := [.ref z1, .int z2, .int z3]) (rest := []) e rfl rfl rfl rfl rfl rfl (fun h => d_Address_takePath h ⟨rfl, rfl⟩) (fun g4 e => ?_)
    refine wp_p (j := J_Address_read) 5 (pc' := 147) (lv' := [(0, .ref v0), (1, .ref v1), (2, .int v2), (3, .int v3), (4, .ref v4), (5, .int v5), (6, .int v6)]) (st' := [.ref v4, .int v3, .int v5, .ref v1, .ref v0]) rfl ?_
    refine x_cv2 (As := [.ref v1, .int v5, .int v3, va_rf (some v4)]) (rest := []) Value.int e rfl rfl rfl rfl rfl rfl (fun h => d_Address_readTail h ⟨rfl, rfl⟩) (fun z5 g6 e => ?_)
    obtain ⟨h8, e⟩ := tz_ok e
    have e := Option.some.inj e; subst e; exact wp_iret (ty := .boolean) rfl rfl h8 c
  · refine wp_p (j := J_Address_read) 2 (pc' := 155) (lv' := [(0, .ref v0), (1, .ref v1), (2, .int v2), (3, .int v3), (4, .ref v4), (5, .int v5), (6, .int v6)]) (st' := [.int 160, .ref v0]) rfl ?_
    refine x_pI e rfl rfl fw_1_5 rfl (fun g9 e => ?_)
    refine wp_p (j := J_Address_read) 2 (pc' := 160) (lv' := [(0, .ref v0), (1, .ref v1), (2, .int v2), (3, .int v3), (4, .ref v4), (5, .int v5), (6, .int v6)]) (st' := [.int 0, .ref v0]) rfl ?_
    refine x_pI e rfl rfl fw_1_6 rfl (fun g10 e => ?_)
    refine wp_p (j := J_Address_read) 2 (pc' := 165) (lv' := [(0, .ref v0), (1, .ref v1), (2, .int v2), (3, .int v3), (4, .ref v4), (5, .int v5), (6, .int v6)]) (st' := [.int 0, .ref v0]) rfl ?_
    refine x_pI e rfl rfl fw_1_7 rfl (fun g11 e => ?_)
    refine wp_p (j := J_Address_read) 5 (pc' := 176) (lv' := [(0, .ref v0), (1, .ref v1), (2, .int v2), (3, .int v3), (4, .ref v4), (5, .int v5), (6, .int v6)]) (st' := [.int v5, .int v5, .int v6, .ref v1, .ref v0]) rfl ?_
    refine x_cv2 (As := [.ref v1, .int v6, .int v5, .int v5]) (rest := []) Value.int e rfl rfl rfl rfl rfl rfl (fun h => d_Address_takeSegments h ⟨rfl, rfl⟩) (fun z12 g13 e => ?_)
    refine z_ne e rfl (fun e => ?_) (fun e => ?_)
    · refine wp_p (j := J_Address_read) 1 (pc' := 183) (lv' := [(0, .ref v0), (1, .ref v1), (2, .int v2), (3, .int v3), (4, .ref v4), (5, .int v5), (6, .int v6)]) (st' := [.int 0]) rfl ?_
      have e := Option.some.inj e; subst e; exact wp_iret (ty := .boolean) rfl rfl (by decide) c
    · refine wp_p (j := J_Address_read) 2 (pc' := 186) (lv' := [(0, .ref v0), (1, .ref v1), (2, .int v2), (3, .int v3), (4, .ref v4), (5, .int v5), (6, .int v6)]) (st' := [.int v2, .ref v1]) rfl ?_
      refine x_aB e rfl (.inl rfl) rfl (fun z14 e => ?_)
      refine wp_p (j := J_Address_read) 1 (pc' := 189) (lv' := [(0, .ref v0), (1, .ref v1), (2, .int v2), (3, .int v3), (4, .ref v4), (5, .int v5), (6, .int v6)]) (st' := [.int 47, .int z14]) rfl ?_
      refine x_eq e rfl (fun e => ?_) (fun e => ?_)
      · exact wp_lv (lv' := [(0, .ref v0), (1, .ref v1), (3, .int v3), (5, .int v5), (6, .int v6)]) rfl ⟨rfl, rfl, rfl, rfl, rfl, trivial⟩ (x_Address_read_221 e c)
      · refine wp_p (j := J_Address_read) 2 (pc' := 195) (lv' := [(0, .ref v0), (1, .ref v1), (2, .int v2), (3, .int v3), (4, .ref v4), (5, .int v5), (6, .int v6)]) (st' := [.ref v4, .ref v0]) rfl ?_
        refine x_gQ e rfl rfl fd_1_0 rfl (fun z15 e => ?_)
        refine wp_p (j := J_Address_read) 1 (pc' := 200) (lv' := [(0, .ref v0), (1, .ref v1), (2, .int v2), (3, .int v3), (4, .ref v4), (5, .int v5), (6, .int v6)]) (st' := [.ref v4, .ref z15, .ref v0]) rfl ?_
        refine x_gI e rfl rfl fd_1_2 rfl (fun z16 e => ?_)
        refine wp_p (j := J_Address_read) 1 (pc' := 205) (lv' := [(0, .ref v0), (1, .ref v1), (2, .int v2), (3, .int v3), (4, .ref v4), (5, .int v5), (6, .int v6)]) (st' := [.ref v4, .int z16, .ref z15, .ref v0]) rfl ?_
        refine x_cv1 (As := []) (rest := [.int z16, .ref z15, .ref v0]) Value.int e rfl rfl rfl rfl rfl rfl (fun h => d_Address_lastSlash h ⟨rfl, rfl⟩) (fun z17 e => ?_)
        refine wp_p (j := J_Address_read) 1 (pc' := 210) (lv' := [(0, .ref v0), (1, .ref v1), (2, .int v2), (3, .int v3), (4, .ref v4), (5, .int v5), (6, .int v6)]) (st' := [.ref v4, .int z17, .int z16, .ref z15, .ref v0]) rfl ?_
        refine x_gI e rfl rfl fd_1_3 rfl (fun z18 e => ?_)
        refine x_cv2 (As := [.ref z15, .int z16, .int z17, .int z18]) (rest := []) Value.int e rfl rfl rfl rfl rfl rfl (fun h => d_Address_takeSegments h ⟨rfl, rfl⟩) (fun z19 g20 e => ?_)
        refine z_ne e rfl (fun e => ?_) (fun e => ?_)
        · refine wp_p (j := J_Address_read) 1 (pc' := 220) (lv' := [(0, .ref v0), (1, .ref v1), (2, .int v2), (3, .int v3), (4, .ref v4), (5, .int v5), (6, .int v6)]) (st' := [.int 0]) rfl ?_
          have e := Option.some.inj e; subst e; exact wp_iret (ty := .boolean) rfl rfl (by decide) c
        · exact wp_lv (lv' := [(0, .ref v0), (1, .ref v1), (3, .int v3), (5, .int v5), (6, .int v6)]) rfl ⟨rfl, rfl, rfl, rfl, rfl, trivial⟩ (x_Address_read_221 e c)
noncomputable def k_Address_read_75 (v0 : Nat) (v1 : Nat) (v2 : Int32) (v3 : Int32) (v4 : Nat) (v5 : Int32) (v6 : Int32) (g : g_S) : Option (Int32 × g_S) :=
  (M_Bytes_isName v1 (v2 + 2) v6 g).bind fun z1 =>
  if z1 = 0 then
    some (0, g)
  else
    (vc g 101 v0 (M_Address_takeSite v0 v1 v2 v6 g)).bind fun g2 =>
    k_Address_read_115 v0 v1 v2 v3 v4 v5 v6 g2
set_option maxRecDepth 20000 in
theorem x_Address_read_75 {L : Nat} {xs : Nat → Int32} {Q : Option Value → ab_H → Prop} {v0 : Nat} {v1 : Nat} {v2 : Int32} {v3 : Int32} {v4 : Nat} {v5 : Int32} {v6 : Int32} {g : g_S} {out : Int32 × g_S} (e : k_Address_read_75 v0 v1 v2 v3 v4 v5 v6 g = some out) (c : Q (some (.int out.1)) (hp out.2)) : wp (ab_ext L xs) J_Address_read 75 [(0, .ref v0), (1, .ref v1), (2, .int v2), (3, .int v3), (4, .ref v4), (5, .int v5), (6, .int v6)] [] (hp g) Q := by
  unfold k_Address_read_75 at e
  refine wp_p (j := J_Address_read) 5 (pc' := 81) (lv' := [(0, .ref v0), (1, .ref v1), (2, .int v2), (3, .int v3), (4, .ref v4), (5, .int v5), (6, .int v6)]) (st' := [.int v6, .int (v2 + 2), .ref v1]) rfl ?_
  refine x_cs1 (As := [.ref v1, .int (v2 + 2), .int v6]) (rest := []) Value.int e rfl rfl rfl rfl rfl (fun h => d_Bytes_isName h ⟨rfl, rfl⟩) (fun z1 e => ?_)
  refine z_ne e rfl (fun e => ?_) (fun e => ?_)
  · refine wp_p (j := J_Address_read) 1 (pc' := 88) (lv' := [(0, .ref v0), (1, .ref v1), (2, .int v2), (3, .int v3), (4, .ref v4), (5, .int v5), (6, .int v6)]) (st' := [.int 0]) rfl ?_
    have e := Option.some.inj e; subst e; exact wp_iret (ty := .boolean) rfl rfl (by decide) c
  · refine wp_p (j := J_Address_read) 4 (pc' := 94) (lv' := [(0, .ref v0), (1, .ref v1), (2, .int v2), (3, .int v3), (4, .ref v4), (5, .int v5), (6, .int v6)]) (st' := [.int v6, .int v2, .ref v1, .ref v0]) rfl ?_
    refine x_cv0 (As := [.ref v1, .int v2, .int v6]) (rest := []) e rfl rfl rfl rfl rfl rfl (fun h => d_Address_takeSite h ⟨rfl, rfl⟩) (fun g2 e => ?_)
    refine wp_p (j := J_Address_read) 1 (pc' := 115) (lv' := [(0, .ref v0), (1, .ref v1), (2, .int v2), (3, .int v3), (4, .ref v4), (5, .int v5), (6, .int v6)]) (st' := []) rfl ?_
    exact wp_lv (lv' := [(0, .ref v0), (1, .ref v1), (2, .int v2), (3, .int v3), (4, .ref v4), (5, .int v5), (6, .int v6)]) rfl ⟨rfl, rfl, rfl, rfl, rfl, rfl, rfl, trivial⟩ (x_Address_read_115 e c)
noncomputable def k_Address_read_33 (v0 : Nat) (v1 : Nat) (v2 : Int32) (v3 : Int32) (v4 : Nat) (v5 : Int32) (g : g_S) : Option (Int32 × g_S) :=
  (M_Bytes_stands 1000002 v1 v2 v5 g).bind fun z1 =>
  if z1 = 0 then
    (rQ g 101 v4 0).bind fun z2 =>
    (rI g 101 v4 2).bind fun z3 =>
    (vc g 101 v0 (M_Address_takeSite v0 z2 0 z3 g)).bind fun g4 =>
    k_Address_read_115 v0 v1 v2 v3 v4 v5 v2 g4
  else
    (L_Address_read_53 v0 v1 v2 v3 v4 v5 (v2 + 2) g).bind <| fun z7 =>
    k_Address_read_75 v0 v1 v2 v3 v4 v5 z7 g
set_option maxRecDepth 20000 in
theorem x_Address_read_33 {L : Nat} {xs : Nat → Int32} {Q : Option Value → ab_H → Prop} {v0 : Nat} {v1 : Nat} {v2 : Int32} {v3 : Int32} {v4 : Nat} {v5 : Int32} {g : g_S} {out : Int32 × g_S} (e : k_Address_read_33 v0 v1 v2 v3 v4 v5 g = some out) (c : Q (some (.int out.1)) (hp out.2)) : wp (ab_ext L xs) J_Address_read 33 [(0, .ref v0), (1, .ref v1), (2, .int v2), (3, .int v3), (4, .ref v4), (5, .int v5)] [] (hp g) Q := by
  unfold k_Address_read_33 at e
  refine wp_p (j := J_Address_read) 2 (pc' := 36) (lv' := [(6, .int v2), (0, .ref v0), (1, .ref v1), (2, .int v2), (3, .int v3), (4, .ref v4), (5, .int v5)]) (st' := []) rfl ?_
  refine x_ls rfl rfl ?_
  refine wp_p (j := J_Address_read) 3 (pc' := 42) (lv' := [(6, .int v2), (0, .ref v0), (1, .ref v1), (2, .int v2), (3, .int v3), (4, .ref v4), (5, .int v5)]) (st' := [.int v5, .int v2, .ref v1, .ref 1000002]) rfl ?_
  refine x_cs1 (As := [.ref 1000002, .ref v1, .int v2, .int v5]) (rest := []) Value.int e rfl rfl rfl rfl rfl (fun h => d_Bytes_stands h ⟨rfl, rfl⟩) (fun z1 e => ?_)
  refine z_eq e rfl (fun e => ?_) (fun e => ?_)
  · refine wp_p (j := J_Address_read) 2 (pc' := 103) (lv' := [(6, .int v2), (0, .ref v0), (1, .ref v1), (2, .int v2), (3, .int v3), (4, .ref v4), (5, .int v5)]) (st' := [.ref v4, .ref v0]) rfl ?_
    refine x_gQ e rfl rfl fd_1_0 rfl (fun z2 e => ?_)
    refine wp_p (j := J_Address_read) 2 (pc' := 109) (lv' := [(6, .int v2), (0, .ref v0), (1, .ref v1), (2, .int v2), (3, .int v3), (4, .ref v4), (5, .int v5)]) (st' := [.ref v4, .int 0, .ref z2, .ref v0]) rfl ?_
    refine x_gI e rfl rfl fd_1_2 rfl (fun z3 e => ?_)
    refine x_cv0 (As := [.ref z2, .int 0, .int z3]) (rest := []) e rfl rfl rfl rfl rfl rfl (fun h => d_Address_takeSite h ⟨rfl, rfl⟩) (fun g4 e => ?_)
    exact wp_lv (lv' := [(0, .ref v0), (1, .ref v1), (2, .int v2), (3, .int v3), (4, .ref v4), (5, .int v5), (6, .int v2)]) rfl ⟨rfl, rfl, rfl, rfl, rfl, rfl, rfl, trivial⟩ (x_Address_read_115 e c)
  · refine wp_p (j := J_Address_read) 4 (pc' := 53) (lv' := [(6, .int (v2 + 2)), (0, .ref v0), (1, .ref v1), (2, .int v2), (3, .int v3), (4, .ref v4), (5, .int v5)]) (st' := []) rfl ?_
    obtain ⟨z7, h6, e⟩ := bd e
    refine wp_lv (lv' := [(0, .ref v0), (1, .ref v1), (2, .int v2), (3, .int v3), (4, .ref v4), (5, .int v5), (6, .int (v2 + 2))]) rfl ⟨rfl, rfl, rfl, rfl, rfl, rfl, rfl, trivial⟩ ?_
    refine l_Address_read_53 h6 ?_
    show wp (ab_ext L xs) J_Address_read 75 [(0, .ref v0), (1, .ref v1), (2, .int v2), (3, .int v3), (4, .ref v4), (5, .int v5), (6, .int z7)] [] (hp g) Q
    exact wp_lv (lv' := [(0, .ref v0), (1, .ref v1), (2, .int v2), (3, .int v3), (4, .ref v4), (5, .int v5), (6, .int z7)]) rfl ⟨rfl, rfl, rfl, rfl, rfl, rfl, rfl, trivial⟩ (x_Address_read_75 e c)
noncomputable def M_Address_read (v0 : Nat) (v1 : Nat) (v2 : Int32) (v3 : Int32) (v4 : Nat) (g : g_S) : Option (Int32 × g_S) :=
  (L_Address_read_3 v0 v1 v2 v3 v4 v2 g).bind <| fun z3 =>
  k_Address_read_33 v0 v1 v2 v3 v4 z3 g
set_option maxRecDepth 20000 in
theorem d_Address_read {L : Nat} {xs : Nat → Int32} {Q : Option Value → ab_H → Prop} {v0 : Nat} {v1 : Nat} {v2 : Int32} {v3 : Int32} {v4 : Nat} {g : g_S} {out : Int32 × g_S} (e : M_Address_read v0 v1 v2 v3 v4 g = some out) (c : Q (some (.int out.1)) (hp out.2)) : mw (ab_ext L xs) J_Address_read [.ref v0, .ref v1, .int v2, .int v3, .ref v4] (hp g) Q := by
  unfold M_Address_read at e
  refine wp_p (j := J_Address_read) 2 (pc' := 3) (lv' := [(5, .int v2), (0, .ref v0), (1, .ref v1), (2, .int v2), (3, .int v3), (4, .ref v4)]) (st' := []) rfl ?_
  obtain ⟨z3, h2, e⟩ := bd e
  refine wp_lv (lv' := [(0, .ref v0), (1, .ref v1), (2, .int v2), (3, .int v3), (4, .ref v4), (5, .int v2)]) rfl ⟨rfl, rfl, rfl, rfl, rfl, rfl, trivial⟩ ?_
  refine l_Address_read_3 h2 ?_
  show wp (ab_ext L xs) J_Address_read 33 [(0, .ref v0), (1, .ref v1), (2, .int v2), (3, .int v3), (4, .ref v4), (5, .int z3)] [] (hp g) Q
  exact wp_lv (lv' := [(0, .ref v0), (1, .ref v1), (2, .int v2), (3, .int v3), (4, .ref v4), (5, .int z3)]) rfl ⟨rfl, rfl, rfl, rfl, rfl, rfl, trivial⟩ (x_Address_read_33 e c)
noncomputable def M_Address_copy (v0 : Nat) (v1 : Nat) (g : g_S) : Option g_S :=
  (rQ g 101 v1 0).bind fun z1 =>
  (rQ g 101 v0 0).bind fun z2 =>
  (rI g 101 v1 5).bind fun z3 =>
  (cp g 1 z1 0 z2 0 z3).bind fun g4 =>
  (rL g4 101 v1 1).bind fun z5 =>
  (wL g4 101 v0 1 z5).bind fun g6 =>
  (rI g6 101 v1 2).bind fun z7 =>
  (wI g6 101 v0 2 z7).bind fun g8 =>
  (rI g8 101 v1 3).bind fun z9 =>
  (wI g8 101 v0 3 z9).bind fun g10 =>
  (rI g10 101 v1 4).bind fun z11 =>
  (wI g10 101 v0 4 z11).bind fun g12 =>
  (rI g12 101 v1 5).bind fun z13 =>
  (wI g12 101 v0 5 z13).bind fun g14 =>
  some g14
set_option maxRecDepth 20000 in
theorem d_Address_copy {L : Nat} {xs : Nat → Int32} {Q : Option Value → ab_H → Prop} {v0 : Nat} {v1 : Nat} {g : g_S} {out : g_S} (e : M_Address_copy v0 v1 g = some out) (c : Q none (hp out)) : mw (ab_ext L xs) J_Address_copy [.ref v0, .ref v1] (hp g) Q := by
  unfold M_Address_copy at e
  refine wp_p (j := J_Address_copy) 1 (pc' := 1) (lv' := [(0, .ref v0), (1, .ref v1)]) (st' := [.ref v1]) rfl ?_
  refine x_gQ e rfl rfl fd_1_0 rfl (fun z1 e => ?_)
  refine wp_p (j := J_Address_copy) 2 (pc' := 6) (lv' := [(0, .ref v0), (1, .ref v1)]) (st' := [.ref v0, .int 0, .ref z1]) rfl ?_
  refine x_gQ e rfl rfl fd_1_0 rfl (fun z2 e => ?_)
  refine wp_p (j := J_Address_copy) 2 (pc' := 11) (lv' := [(0, .ref v0), (1, .ref v1)]) (st' := [.ref v1, .int 0, .ref z2, .int 0, .ref z1]) rfl ?_
  refine x_gI e rfl rfl fd_1_5 rfl (fun z3 e => ?_)
  refine x_cp e rfl (.inr rfl) rfl (fun g4 e => ?_)
  refine wp_p (j := J_Address_copy) 2 (pc' := 19) (lv' := [(0, .ref v0), (1, .ref v1)]) (st' := [.ref v1, .ref v0]) rfl ?_
  refine x_gL e rfl rfl fd_1_1 rfl (fun z5 e => ?_)
  refine x_pL e rfl rfl fw_1_1 rfl (fun g6 e => ?_)
  refine wp_p (j := J_Address_copy) 2 (pc' := 27) (lv' := [(0, .ref v0), (1, .ref v1)]) (st' := [.ref v1, .ref v0]) rfl ?_
  refine x_gI e rfl rfl fd_1_2 rfl (fun z7 e => ?_)
  refine x_pI e rfl rfl fw_1_2 rfl (fun g8 e => ?_)
  refine wp_p (j := J_Address_copy) 2 (pc' := 35) (lv' := [(0, .ref v0), (1, .ref v1)]) (st' := [.ref v1, .ref v0]) rfl ?_
  refine x_gI e rfl rfl fd_1_3 rfl (fun z9 e => ?_)
  refine x_pI e rfl rfl fw_1_3 rfl (fun g10 e => ?_)
  refine wp_p (j := J_Address_copy) 2 (pc' := 43) (lv' := [(0, .ref v0), (1, .ref v1)]) (st' := [.ref v1, .ref v0]) rfl ?_
  refine x_gI e rfl rfl fd_1_4 rfl (fun z11 e => ?_)
  refine x_pI e rfl rfl fw_1_4 rfl (fun g12 e => ?_)
  refine wp_p (j := J_Address_copy) 2 (pc' := 51) (lv' := [(0, .ref v0), (1, .ref v1)]) (st' := [.ref v1, .ref v0]) rfl ?_
  refine x_gI e rfl rfl fd_1_5 rfl (fun z13 e => ?_)
  refine x_pI e rfl rfl fw_1_5 rfl (fun g14 e => ?_)
  have e := Option.some.inj e; subst e; exact wp_vret rfl rfl c
def cL_Net_init_165 (L : Nat) (xs : Nat → Int32) (Q : Option Value → ab_H → Prop) (v0 : Nat) (out : (Int32 × g_S) ⊕ (g_S)) : Prop := match out with
  | .inl s => wp (ab_ext L xs) J_Net_init 165 [(0, .ref v0), (2, .int s.1)] [] (hp s.2) Q
  | .inr s => wp (ab_ext L xs) J_Net_init 190 [(0, .ref v0)] [] (hp s) Q
noncomputable def b_Net_init_165 (v0 : Nat) (v2 : Int32) (g : g_S) : Option ((Int32 × g_S) ⊕ (g_S)) :=
  if v2 < 20 then
    (rQ g 106 v0 17).bind fun z1 =>
    c2 (nO g 101) fun z2 g3 =>
    (M_Address_init z2 g3).bind fun g4 =>
    (sQ g4 6 z1 v2 z2).bind fun g5 =>
    some (.inl (v2 + 1, g5))
  else
    some (.inr g)
set_option maxRecDepth 20000 in
theorem y_Net_init_165 {L : Nat} {xs : Nat → Int32} {Q : Option Value → ab_H → Prop} {v0 : Nat} {v2 : Int32} {g : g_S} {out : (Int32 × g_S) ⊕ (g_S)} (e : b_Net_init_165 v0 v2 g = some out) (c : cL_Net_init_165 L xs Q v0 out) : wp (ab_ext L xs) J_Net_init 165 [(0, .ref v0), (2, .int v2)] [] (hp g) Q := by
  unfold b_Net_init_165 at e
  refine wp_p (j := J_Net_init) 2 (pc' := 168) (lv' := [(0, .ref v0), (2, .int v2)]) (st' := [.int 20, .int v2]) rfl ?_
  refine x_ge e rfl (fun e => ?_) (fun e => ?_)
  · refine wp_p (j := J_Net_init) 1 (pc' := 172) (lv' := [(0, .ref v0), (2, .int v2)]) (st' := [.ref v0]) rfl ?_
    refine x_gQ e rfl rfl fd_6_17 rfl (fun z1 e => ?_)
    refine wp_p (j := J_Net_init) 1 (pc' := 176) (lv' := [(0, .ref v0), (2, .int v2)]) (st' := [.int v2, .ref z1]) rfl ?_
    refine x_nO e rfl rfl rfl (fun z2 g3 e => ?_)
    refine wp_p (j := J_Net_init) 1 (pc' := 180) (lv' := [(0, .ref v0), (2, .int v2)]) (st' := [.ref z2, .ref z2, .int v2, .ref z1]) rfl ?_
    refine x_ci0 (As := []) (rest := [.ref z2, .int v2, .ref z1]) e rfl rfl rfl rfl rfl (fun h => d_Address_init h ⟨rfl, rfl⟩) (fun g4 e => ?_)
    refine x_sQ e rfl rfl rfl (fun g5 e => ?_)
    refine wp_p (j := J_Net_init) 2 (pc' := 165) (lv' := [(2, .int (v2 + 1)), (0, .ref v0)]) (st' := []) rfl ?_
    have e := Option.some.inj e; subst e; exact wp_lv (lv' := [(0, .ref v0), (2, .int (v2 + 1))]) rfl ⟨rfl, rfl, trivial⟩ c
  · have e := Option.some.inj e; subst e; exact wp_lv (lv' := [(0, .ref v0)]) rfl ⟨rfl, trivial⟩ c
noncomputable def L_Net_init_165 (v0 : Nat) (v2 : Int32) (g : g_S) : Option (g_S) := it (fun s : Int32 × g_S => b_Net_init_165 v0 s.1 s.2) (v2, g)
theorem l_Net_init_165 {L : Nat} {xs : Nat → Int32} {Q : Option Value → ab_H → Prop} {v0 : Nat} {v2 : Int32} {g : g_S} {r : g_S} (e : L_Net_init_165 v0 v2 g = some r) (c : cL_Net_init_165 L xs Q v0 (.inr r)) : wp (ab_ext L xs) J_Net_init 165 [(0, .ref v0), (2, .int v2)] [] (hp g) Q :=
  it_wp (P := fun s : Int32 × g_S => wp (ab_ext L xs) J_Net_init 165 [(0, .ref v0), (2, .int s.1)] [] (hp s.2) Q) (E := fun r => cL_Net_init_165 L xs Q v0 (.inr r)) (fun s out e c => y_Net_init_165 e (by cases out <;> exact c)) e c
theorem L_Net_init_165_eq (v0 : Nat) (v2 : Int32) (g : g_S) : L_Net_init_165 v0 v2 g = itc (b_Net_init_165 v0 v2 g) (fun s => L_Net_init_165 v0 s.1 s.2) := it_eq2 (fun s : Int32 × g_S => b_Net_init_165 v0 s.1 s.2) (v2, g)
noncomputable def M_Net_init (v0 : Nat) (g : g_S) : Option g_S :=
  c2 (nO g 102) fun z1 g2 =>
  (M_Answer_init z1 g2).bind fun g3 =>
  (wR g3 106 v0 0 (some z1)).bind fun g4 =>
  c2 (nA g4 7 12) fun z5 g6 =>
  (wR g6 106 v0 1 (some z5)).bind fun g7 =>
  c2 (nA g7 7 8) fun z8 g9 =>
  (wR g9 106 v0 3 (some z8)).bind fun g10 =>
  c2 (nA g10 3 60) fun z11 g12 =>
  (wR g12 106 v0 5 (some z11)).bind fun g13 =>
  c2 (nA g13 3 60) fun z14 g15 =>
  (wR g15 106 v0 7 (some z14)).bind fun g16 =>
  c2 (nO g16 101) fun z17 g18 =>
  (M_Address_init z17 g18).bind fun g19 =>
  (wR g19 106 v0 10 (some z17)).bind fun g20 =>
  c2 (nO g20 104) fun z21 g22 =>
  (M_Bytes_init z21 2000 g22).bind fun g23 =>
  (wR g23 106 v0 11 (some z21)).bind fun g24 =>
  c2 (nO g24 101) fun z25 g26 =>
  (M_Address_init z25 g26).bind fun g27 =>
  (wR g27 106 v0 13 (some z25)).bind fun g28 =>
  c2 (nO g28 101) fun z29 g30 =>
  (M_Address_init z29 g30).bind fun g31 =>
  (wR g31 106 v0 14 (some z29)).bind fun g32 =>
  c2 (nO g32 101) fun z33 g34 =>
  (M_Address_init z33 g34).bind fun g35 =>
  (wR g35 106 v0 15 (some z33)).bind fun g36 =>
  (wI g36 106 v0 16 0).bind fun g37 =>
  c2 (nA g37 6 20) fun z38 g39 =>
  (wR g39 106 v0 17 (some z38)).bind fun g40 =>
  (wI g40 106 v0 18 1).bind fun g41 =>
  c2 (nO g41 104) fun z42 g43 =>
  (M_Bytes_init z42 8 g43).bind fun g44 =>
  (vc g44 104 z42 (M_Bytes_addText z42 1000001 g44)).bind fun g45 =>
  (rQ g45 106 v0 13).bind fun z46 =>
  (rQ g45 104 z42 1).bind fun z47 =>
  (rI g45 104 z42 2).bind fun z48 =>
  (rQ g45 106 v0 14).bind fun z49 =>
  c2 (vc g45 101 z46 (M_Address_read z46 z47 0 z48 z49 g45)) fun z50 g51 =>
  (L_Net_init_165 v0 0 g51).bind <| fun g54 =>
  (rQ g54 106 v0 17).bind fun z55 =>
  (aQ g54 6 z55 0).bind fun z56 =>
  (rQ g54 106 v0 13).bind fun z57 =>
  (vc g54 101 z56 (M_Address_copy z56 z57 g54)).bind fun g58 =>
  some g58
set_option maxRecDepth 20000 in
theorem d_Net_init {L : Nat} {xs : Nat → Int32} {Q : Option Value → ab_H → Prop} {v0 : Nat} {g : g_S} {out : g_S} (e : M_Net_init v0 g = some out) (c : Q none (hp out)) : mw (ab_ext L xs) J_Net_init [.ref v0] (hp g) Q := by
  unfold M_Net_init at e
  refine wp_p (j := J_Net_init) 1 (pc' := 1) (lv' := [(0, .ref v0)]) (st' := [.ref v0]) rfl ?_
  refine wp_obj rfl (Nat.le_of_ble_eq_true rfl) ?_
  refine wp_p (j := J_Net_init) 1 (pc' := 5) (lv' := [(0, .ref v0)]) (st' := [.ref v0]) rfl ?_
  refine x_nO e rfl rfl rfl (fun z1 g2 e => ?_)
  refine wp_p (j := J_Net_init) 1 (pc' := 9) (lv' := [(0, .ref v0)]) (st' := [.ref z1, .ref z1, .ref v0]) rfl ?_
  refine x_ci0 (As := []) (rest := [.ref z1, .ref v0]) e rfl rfl rfl rfl rfl (fun h => d_Answer_init h ⟨rfl, rfl⟩) (fun g3 e => ?_)
  refine x_pR (r := (some z1)) e rfl rfl fd_6_0 rfl (fun g4 e => ?_)
  refine wp_p (j := J_Net_init) 2 (pc' := 18) (lv' := [(0, .ref v0)]) (st' := [.int 12, .ref v0]) rfl ?_
  refine x_nQ e rfl rfl rfl (fun z5 g6 e => ?_)
  refine x_pR (r := (some z5)) e rfl rfl fd_6_1 rfl (fun g7 e => ?_)
  refine wp_p (j := J_Net_init) 2 (pc' := 27) (lv' := [(0, .ref v0)]) (st' := [.int 8, .ref v0]) rfl ?_
  refine x_nQ e rfl rfl rfl (fun z8 g9 e => ?_)
  refine x_pR (r := (some z8)) e rfl rfl fd_6_3 rfl (fun g10 e => ?_)
  refine wp_p (j := J_Net_init) 2 (pc' := 36) (lv' := [(0, .ref v0)]) (st' := [.int 60, .ref v0]) rfl ?_
  refine x_nA e rfl rfl rfl (fun z11 g12 e => ?_)
  refine x_pR (r := (some z11)) e rfl rfl fd_6_5 rfl (fun g13 e => ?_)
  refine wp_p (j := J_Net_init) 2 (pc' := 44) (lv' := [(0, .ref v0)]) (st' := [.int 60, .ref v0]) rfl ?_
  refine x_nA e rfl rfl rfl (fun z14 g15 e => ?_)
  refine x_pR (r := (some z14)) e rfl rfl fd_6_7 rfl (fun g16 e => ?_)
  refine wp_p (j := J_Net_init) 1 (pc' := 50) (lv' := [(0, .ref v0)]) (st' := [.ref v0]) rfl ?_
  refine x_nO e rfl rfl rfl (fun z17 g18 e => ?_)
  refine wp_p (j := J_Net_init) 1 (pc' := 54) (lv' := [(0, .ref v0)]) (st' := [.ref z17, .ref z17, .ref v0]) rfl ?_
  refine x_ci0 (As := []) (rest := [.ref z17, .ref v0]) e rfl rfl rfl rfl rfl (fun h => d_Address_init h ⟨rfl, rfl⟩) (fun g19 e => ?_)
  refine x_pR (r := (some z17)) e rfl rfl fd_6_10 rfl (fun g20 e => ?_)
  refine wp_p (j := J_Net_init) 1 (pc' := 61) (lv' := [(0, .ref v0)]) (st' := [.ref v0]) rfl ?_
  refine x_nO e rfl rfl rfl (fun z21 g22 e => ?_)
  refine wp_p (j := J_Net_init) 2 (pc' := 68) (lv' := [(0, .ref v0)]) (st' := [.int 2000, .ref z21, .ref z21, .ref v0]) rfl ?_
  refine x_ci0 (As := [.int 2000]) (rest := [.ref z21, .ref v0]) e rfl rfl rfl rfl rfl (fun h => d_Bytes_init h ⟨rfl, rfl⟩) (fun g23 e => ?_)
  refine x_pR (r := (some z21)) e rfl rfl fd_6_11 rfl (fun g24 e => ?_)
  refine wp_p (j := J_Net_init) 1 (pc' := 75) (lv' := [(0, .ref v0)]) (st' := [.ref v0]) rfl ?_
  refine x_nO e rfl rfl rfl (fun z25 g26 e => ?_)
  refine wp_p (j := J_Net_init) 1 (pc' := 79) (lv' := [(0, .ref v0)]) (st' := [.ref z25, .ref z25, .ref v0]) rfl ?_
  refine x_ci0 (As := []) (rest := [.ref z25, .ref v0]) e rfl rfl rfl rfl rfl (fun h => d_Address_init h ⟨rfl, rfl⟩) (fun g27 e => ?_)
  refine x_pR (r := (some z25)) e rfl rfl fd_6_13 rfl (fun g28 e => ?_)
  refine wp_p (j := J_Net_init) 1 (pc' := 86) (lv' := [(0, .ref v0)]) (st' := [.ref v0]) rfl ?_
  refine x_nO e rfl rfl rfl (fun z29 g30 e => ?_)
  refine wp_p (j := J_Net_init) 1 (pc' := 90) (lv' := [(0, .ref v0)]) (st' := [.ref z29, .ref z29, .ref v0]) rfl ?_
  refine x_ci0 (As := []) (rest := [.ref z29, .ref v0]) e rfl rfl rfl rfl rfl (fun h => d_Address_init h ⟨rfl, rfl⟩) (fun g31 e => ?_)
  refine x_pR (r := (some z29)) e rfl rfl fd_6_14 rfl (fun g32 e => ?_)
  refine wp_p (j := J_Net_init) 1 (pc' := 97) (lv' := [(0, .ref v0)]) (st' := [.ref v0]) rfl ?_
  refine x_nO e rfl rfl rfl (fun z33 g34 e => ?_)
  refine wp_p (j := J_Net_init) 1 (pc' := 101) (lv' := [(0, .ref v0)]) (st' := [.ref z33, .ref z33, .ref v0]) rfl ?_
  refine x_ci0 (As := []) (rest := [.ref z33, .ref v0]) e rfl rfl rfl rfl rfl (fun h => d_Address_init h ⟨rfl, rfl⟩) (fun g35 e => ?_)
  refine x_pR (r := (some z33)) e rfl rfl fd_6_15 rfl (fun g36 e => ?_)
  refine wp_p (j := J_Net_init) 2 (pc' := 109) (lv' := [(0, .ref v0)]) (st' := [.int 0, .ref v0]) rfl ?_
  refine x_pI e rfl rfl fw_6_16 rfl (fun g37 e => ?_)
  refine wp_p (j := J_Net_init) 2 (pc' := 115) (lv' := [(0, .ref v0)]) (st' := [.int 20, .ref v0]) rfl ?_
  refine x_nQ e rfl rfl rfl (fun z38 g39 e => ?_)
  refine x_pR (r := (some z38)) e rfl rfl fd_6_17 rfl (fun g40 e => ?_)
  refine wp_p (j := J_Net_init) 2 (pc' := 123) (lv' := [(0, .ref v0)]) (st' := [.int 1, .ref v0]) rfl ?_
  refine x_pI e rfl rfl fw_6_18 rfl (fun g41 e => ?_)
  refine x_nO e rfl rfl rfl (fun z42 g43 e => ?_)
  refine wp_p (j := J_Net_init) 2 (pc' := 132) (lv' := [(0, .ref v0)]) (st' := [.int 8, .ref z42, .ref z42]) rfl ?_
  refine x_ci0 (As := [.int 8]) (rest := [.ref z42]) e rfl rfl rfl rfl rfl (fun h => d_Bytes_init h ⟨rfl, rfl⟩) (fun g44 e => ?_)
  refine wp_p (j := J_Net_init) 2 (pc' := 137) (lv' := [(1, .ref z42), (0, .ref v0)]) (st' := [.ref z42]) rfl ?_
  refine x_ls rfl rfl ?_
  refine x_cv0 (As := [.ref 1000001]) (rest := []) e rfl rfl rfl rfl rfl rfl (fun h => d_Bytes_addText h ⟨rfl, rfl⟩) (fun g45 e => ?_)
  refine wp_p (j := J_Net_init) 1 (pc' := 143) (lv' := [(1, .ref z42), (0, .ref v0)]) (st' := [.ref v0]) rfl ?_
  refine x_gQ e rfl rfl fd_6_13 rfl (fun z46 e => ?_)
  refine wp_p (j := J_Net_init) 1 (pc' := 147) (lv' := [(1, .ref z42), (0, .ref v0)]) (st' := [.ref z42, .ref z46]) rfl ?_
  refine x_gQ e rfl rfl fd_4_1 rfl (fun z47 e => ?_)
  refine wp_p (j := J_Net_init) 2 (pc' := 152) (lv' := [(1, .ref z42), (0, .ref v0)]) (st' := [.ref z42, .int 0, .ref z47, .ref z46]) rfl ?_
  refine x_gI e rfl rfl fd_4_2 rfl (fun z48 e => ?_)
  refine wp_p (j := J_Net_init) 1 (pc' := 156) (lv' := [(1, .ref z42), (0, .ref v0)]) (st' := [.ref v0, .int z48, .int 0, .ref z47, .ref z46]) rfl ?_
  refine x_gQ e rfl rfl fd_6_14 rfl (fun z49 e => ?_)
  refine x_cv2 (As := [.ref z47, .int 0, .int z48, .ref z49]) (rest := []) Value.int e rfl rfl rfl rfl rfl rfl (fun h => d_Address_read h ⟨rfl, rfl⟩) (fun z50 g51 e => ?_)
  refine wp_p (j := J_Net_init) 3 (pc' := 165) (lv' := [(2, .int 0), (1, .ref z42), (0, .ref v0)]) (st' := []) rfl ?_
  obtain ⟨g54, h53, e⟩ := bd e
  refine wp_lv (lv' := [(0, .ref v0), (2, .int 0)]) rfl ⟨rfl, rfl, trivial⟩ ?_
  refine l_Net_init_165 h53 ?_
  show wp (ab_ext L xs) J_Net_init 190 [(0, .ref v0)] [] (hp g54) Q
  refine wp_p (j := J_Net_init) 1 (pc' := 191) (lv' := [(0, .ref v0)]) (st' := [.ref v0]) rfl ?_
  refine x_gQ e rfl rfl fd_6_17 rfl (fun z55 e => ?_)
  refine wp_p (j := J_Net_init) 1 (pc' := 195) (lv' := [(0, .ref v0)]) (st' := [.int 0, .ref z55]) rfl ?_
  refine x_aQ e rfl rfl rfl (fun z56 e => ?_)
  refine wp_p (j := J_Net_init) 1 (pc' := 197) (lv' := [(0, .ref v0)]) (st' := [.ref v0, .ref z56]) rfl ?_
  refine x_gQ e rfl rfl fd_6_13 rfl (fun z57 e => ?_)
  refine x_cv0 (As := [.ref z57]) (rest := []) e rfl rfl rfl rfl rfl rfl (fun h => d_Address_copy h ⟨rfl, rfl⟩) (fun g58 e => ?_)
  have e := Option.some.inj e; subst e; exact wp_vret rfl rfl c
noncomputable def M_Reader_init (v0 : Nat) (v1 : Nat) (g : g_S) : Option g_S :=
  c2 (nA g 0 40) fun z1 g2 =>
  (wR g2 108 v0 1 (some z1)).bind fun g3 =>
  c2 (nA g3 0 40) fun z4 g5 =>
  (wR g5 108 v0 2 (some z4)).bind fun g6 =>
  c2 (nA g6 0 22) fun z7 g8 =>
  (wR g8 108 v0 4 (some z7)).bind fun g9 =>
  c2 (nA g9 0 22) fun z10 g11 =>
  (wR g11 108 v0 5 (some z10)).bind fun g12 =>
  c2 (nO g12 107) fun z13 g14 =>
  (M_Node_init z13 g14).bind fun g15 =>
  (wR g15 108 v0 7 (some z13)).bind fun g16 =>
  c2 (nA g16 1 0) fun z17 g18 =>
  (wR g18 108 v0 8 (some z17)).bind fun g19 =>
  (wR g19 108 v0 0 (some v1)).bind fun g20 =>
  some g20
set_option maxRecDepth 20000 in
theorem d_Reader_init {L : Nat} {xs : Nat → Int32} {Q : Option Value → ab_H → Prop} {v0 : Nat} {v1 : Nat} {g : g_S} {out : g_S} (e : M_Reader_init v0 v1 g = some out) (c : Q none (hp out)) : mw (ab_ext L xs) J_Reader_init [.ref v0, .ref v1] (hp g) Q := by
  unfold M_Reader_init at e
  refine wp_p (j := J_Reader_init) 1 (pc' := 1) (lv' := [(0, .ref v0), (1, .ref v1)]) (st' := [.ref v0]) rfl ?_
  refine wp_obj rfl (Nat.le_of_ble_eq_true rfl) ?_
  refine wp_p (j := J_Reader_init) 2 (pc' := 7) (lv' := [(0, .ref v0), (1, .ref v1)]) (st' := [.int 40, .ref v0]) rfl ?_
  refine x_nA e rfl rfl rfl (fun z1 g2 e => ?_)
  refine x_pR (r := (some z1)) e rfl rfl fd_8_1 rfl (fun g3 e => ?_)
  refine wp_p (j := J_Reader_init) 2 (pc' := 15) (lv' := [(0, .ref v0), (1, .ref v1)]) (st' := [.int 40, .ref v0]) rfl ?_
  refine x_nA e rfl rfl rfl (fun z4 g5 e => ?_)
  refine x_pR (r := (some z4)) e rfl rfl fd_8_2 rfl (fun g6 e => ?_)
  refine wp_p (j := J_Reader_init) 2 (pc' := 23) (lv' := [(0, .ref v0), (1, .ref v1)]) (st' := [.int 22, .ref v0]) rfl ?_
  refine x_nA e rfl rfl rfl (fun z7 g8 e => ?_)
  refine x_pR (r := (some z7)) e rfl rfl fd_8_4 rfl (fun g9 e => ?_)
  refine wp_p (j := J_Reader_init) 2 (pc' := 31) (lv' := [(0, .ref v0), (1, .ref v1)]) (st' := [.int 22, .ref v0]) rfl ?_
  refine x_nA e rfl rfl rfl (fun z10 g11 e => ?_)
  refine x_pR (r := (some z10)) e rfl rfl fd_8_5 rfl (fun g12 e => ?_)
  refine wp_p (j := J_Reader_init) 1 (pc' := 37) (lv' := [(0, .ref v0), (1, .ref v1)]) (st' := [.ref v0]) rfl ?_
  refine x_nO e rfl rfl rfl (fun z13 g14 e => ?_)
  refine wp_p (j := J_Reader_init) 1 (pc' := 41) (lv' := [(0, .ref v0), (1, .ref v1)]) (st' := [.ref z13, .ref z13, .ref v0]) rfl ?_
  refine x_ci0 (As := []) (rest := [.ref z13, .ref v0]) e rfl rfl rfl rfl rfl (fun h => d_Node_init h ⟨rfl, rfl⟩) (fun g15 e => ?_)
  refine x_pR (r := (some z13)) e rfl rfl fd_8_7 rfl (fun g16 e => ?_)
  refine wp_p (j := J_Reader_init) 2 (pc' := 49) (lv' := [(0, .ref v0), (1, .ref v1)]) (st' := [.int 0, .ref v0]) rfl ?_
  refine x_nA e rfl rfl rfl (fun z17 g18 e => ?_)
  refine x_pR (r := (some z17)) e rfl rfl fd_8_8 rfl (fun g19 e => ?_)
  refine wp_p (j := J_Reader_init) 2 (pc' := 56) (lv' := [(0, .ref v0), (1, .ref v1)]) (st' := [.ref v1, .ref v0]) rfl ?_
  refine x_pR (r := (some v1)) e rfl rfl fd_8_0 rfl (fun g20 e => ?_)
  have e := Option.some.inj e; subst e; exact wp_vret rfl rfl c
def cL_Bytes_pack_1_4 (L : Nat) (xs : Nat → Int32) (Q : Option Value → ab_H → Prop) (v0 : Nat) (g : g_S) (out : (Int64 × Int32) ⊕ (Int64)) : Prop := match out with
  | .inl s => wp (ab_ext L xs) J_Bytes_pack_1 4 [(0, .ref v0), (1, .long s.1), (3, .int s.2)] [] (hp g) Q
  | .inr s => wp (ab_ext L xs) J_Bytes_pack_1 36 [(1, .long s)] [] (hp g) Q
noncomputable def b_Bytes_pack_1_4 (v0 : Nat) (v1 : Int64) (v3 : Int32) (g : g_S) : Option ((Int64 × Int32) ⊕ (Int64)) :=
  (tN v0).bind fun z1 =>
  if v3 < z1 then
    if v3 < 8 then
      (tC v0 v3).bind fun z2 =>
      some (.inl ((v1 <<< ((8 : Int32).toInt64 &&& 63)) ||| (Int32.toInt64 z2), v3 + 1))
    else
      some (.inr v1)
  else
    some (.inr v1)
set_option maxRecDepth 20000 in
theorem y_Bytes_pack_1_4 {L : Nat} {xs : Nat → Int32} {Q : Option Value → ab_H → Prop} {v0 : Nat} {v1 : Int64} {v3 : Int32} {g : g_S} {out : (Int64 × Int32) ⊕ (Int64)} (e : b_Bytes_pack_1_4 v0 v1 v3 g = some out) (c : cL_Bytes_pack_1_4 L xs Q v0 g out) : wp (ab_ext L xs) J_Bytes_pack_1 4 [(0, .ref v0), (1, .long v1), (3, .int v3)] [] (hp g) Q := by
  unfold b_Bytes_pack_1_4 at e
  refine wp_p (j := J_Bytes_pack_1) 2 (pc' := 6) (lv' := [(0, .ref v0), (1, .long v1), (3, .int v3)]) (st' := [.ref v0, .int v3]) rfl ?_
  refine x_tN e rfl rfl (fun z1 e => ?_)
  refine x_ge e rfl (fun e => ?_) (fun e => ?_)
  · refine wp_p (j := J_Bytes_pack_1) 2 (pc' := 15) (lv' := [(0, .ref v0), (1, .long v1), (3, .int v3)]) (st' := [.int 8, .int v3]) rfl ?_
    refine x_ge e rfl (fun e => ?_) (fun e => ?_)
    · refine wp_p (j := J_Bytes_pack_1) 5 (pc' := 24) (lv' := [(0, .ref v0), (1, .long v1), (3, .int v3)]) (st' := [.int v3, .ref v0, .long (v1 <<< ((8 : Int32).toInt64 &&& 63))]) rfl ?_
      refine x_tC e rfl rfl (fun z2 e => ?_)
      refine wp_p (j := J_Bytes_pack_1) 5 (pc' := 4) (lv' := [(3, .int (v3 + 1)), (1, .long ((v1 <<< ((8 : Int32).toInt64 &&& 63)) ||| (Int32.toInt64 z2))), (0, .ref v0)]) (st' := []) rfl ?_
      have e := Option.some.inj e; subst e; exact wp_lv (lv' := [(0, .ref v0), (1, .long ((v1 <<< ((8 : Int32).toInt64 &&& 63)) ||| (Int32.toInt64 z2))), (3, .int (v3 + 1))]) rfl ⟨rfl, rfl, rfl, trivial⟩ c
    · have e := Option.some.inj e; subst e; exact wp_lv (lv' := [(1, .long v1)]) rfl ⟨rfl, trivial⟩ c
  · have e := Option.some.inj e; subst e; exact wp_lv (lv' := [(1, .long v1)]) rfl ⟨rfl, trivial⟩ c
noncomputable def L_Bytes_pack_1_4 (v0 : Nat) (v1 : Int64) (v3 : Int32) (g : g_S) : Option (Int64) := it (fun s : Int64 × Int32 => b_Bytes_pack_1_4 v0 s.1 s.2 g) (v1, v3)
theorem l_Bytes_pack_1_4 {L : Nat} {xs : Nat → Int32} {Q : Option Value → ab_H → Prop} {v0 : Nat} {v1 : Int64} {v3 : Int32} {g : g_S} {r : Int64} (e : L_Bytes_pack_1_4 v0 v1 v3 g = some r) (c : cL_Bytes_pack_1_4 L xs Q v0 g (.inr r)) : wp (ab_ext L xs) J_Bytes_pack_1 4 [(0, .ref v0), (1, .long v1), (3, .int v3)] [] (hp g) Q :=
  it_wp (P := fun s : Int64 × Int32 => wp (ab_ext L xs) J_Bytes_pack_1 4 [(0, .ref v0), (1, .long s.1), (3, .int s.2)] [] (hp g) Q) (E := fun r => cL_Bytes_pack_1_4 L xs Q v0 g (.inr r)) (fun s out e c => y_Bytes_pack_1_4 e (by cases out <;> exact c)) e c
theorem L_Bytes_pack_1_4_eq (v0 : Nat) (v1 : Int64) (v3 : Int32) (g : g_S) : L_Bytes_pack_1_4 v0 v1 v3 g = itc (b_Bytes_pack_1_4 v0 v1 v3 g) (fun s => L_Bytes_pack_1_4 v0 s.1 s.2 g) := it_eq2 (fun s : Int64 × Int32 => b_Bytes_pack_1_4 v0 s.1 s.2 g) (v1, v3)
noncomputable def M_Bytes_pack_1 (v0 : Nat) (g : g_S) : Option Int64 :=
  (L_Bytes_pack_1_4 v0 0 0 g).bind <| fun z3 =>
  some z3
set_option maxRecDepth 20000 in
theorem d_Bytes_pack_1 {L : Nat} {xs : Nat → Int32} {Q : Option Value → ab_H → Prop} {v0 : Nat} {g : g_S} {out : Int64} (e : M_Bytes_pack_1 v0 g = some out) (c : Q (some (.long out)) (hp g)) : mw (ab_ext L xs) J_Bytes_pack_1 [.ref v0] (hp g) Q := by
  unfold M_Bytes_pack_1 at e
  refine wp_p (j := J_Bytes_pack_1) 4 (pc' := 4) (lv' := [(3, .int 0), (1, .long 0), (0, .ref v0)]) (st' := []) rfl ?_
  obtain ⟨z3, h2, e⟩ := bd e
  refine wp_lv (lv' := [(0, .ref v0), (1, .long 0), (3, .int 0)]) rfl ⟨rfl, rfl, rfl, trivial⟩ ?_
  refine l_Bytes_pack_1_4 h2 ?_
  show wp (ab_ext L xs) J_Bytes_pack_1 36 [(1, .long z3)] [] (hp g) Q
  refine wp_p (j := J_Bytes_pack_1) 1 (pc' := 37) (lv' := [(1, .long z3)]) (st' := [.long z3]) rfl ?_
  have e := Option.some.inj e; subst e; exact wp_lret rfl rfl c
noncomputable def M_Sheet_init (v0 : Nat) (v1 : Nat) (g : g_S) : Option g_S :=
  c2 (nA g 0 41) fun z1 g2 =>
  (wR g2 109 v0 1 (some z1)).bind fun g3 =>
  c2 (nA g3 0 41) fun z4 g5 =>
  (wR g5 109 v0 2 (some z4)).bind fun g6 =>
  c2 (nA g6 0 41) fun z7 g8 =>
  (wR g8 109 v0 3 (some z7)).bind fun g9 =>
  c2 (nA g9 3 123) fun z10 g11 =>
  (wR g11 109 v0 4 (some z10)).bind fun g12 =>
  c2 (nA g12 0 123) fun z13 g14 =>
  (wR g14 109 v0 5 (some z13)).bind fun g15 =>
  c2 (nA g15 3 492) fun z16 g17 =>
  (wR g17 109 v0 6 (some z16)).bind fun g18 =>
  c2 (nA g18 2 492) fun z19 g20 =>
  (wR g20 109 v0 7 (some z19)).bind fun g21 =>
  c2 (nA g21 0 440) fun z22 g23 =>
  (wR g23 109 v0 8 (some z22)).bind fun g24 =>
  c2 (nA g24 0 11) fun z25 g26 =>
  (wR g26 109 v0 9 (some z25)).bind fun g27 =>
  c2 (nA g27 0 1320) fun z28 g29 =>
  (wR g29 109 v0 10 (some z28)).bind fun g30 =>
  (M_Bytes_pack_1 1000003 g30).bind fun z31 =>
  (wL g30 109 v0 11 z31).bind fun g32 =>
  (M_Bytes_pack_1 1000004 g32).bind fun z33 =>
  (wL g32 109 v0 12 z33).bind fun g34 =>
  (wI g34 109 v0 14 (-1)).bind fun g35 =>
  (wR g35 109 v0 0 (some v1)).bind fun g36 =>
  some g36
set_option maxRecDepth 20000 in
theorem d_Sheet_init {L : Nat} {xs : Nat → Int32} {Q : Option Value → ab_H → Prop} {v0 : Nat} {v1 : Nat} {g : g_S} {out : g_S} (e : M_Sheet_init v0 v1 g = some out) (c : Q none (hp out)) : mw (ab_ext L xs) J_Sheet_init [.ref v0, .ref v1] (hp g) Q := by
  unfold M_Sheet_init at e
  refine wp_p (j := J_Sheet_init) 1 (pc' := 1) (lv' := [(0, .ref v0), (1, .ref v1)]) (st' := [.ref v0]) rfl ?_
  refine wp_obj rfl (Nat.le_of_ble_eq_true rfl) ?_
  refine wp_p (j := J_Sheet_init) 2 (pc' := 7) (lv' := [(0, .ref v0), (1, .ref v1)]) (st' := [.int 41, .ref v0]) rfl ?_
  refine x_nA e rfl rfl rfl (fun z1 g2 e => ?_)
  refine x_pR (r := (some z1)) e rfl rfl fd_9_1 rfl (fun g3 e => ?_)
  refine wp_p (j := J_Sheet_init) 2 (pc' := 15) (lv' := [(0, .ref v0), (1, .ref v1)]) (st' := [.int 41, .ref v0]) rfl ?_
  refine x_nA e rfl rfl rfl (fun z4 g5 e => ?_)
  refine x_pR (r := (some z4)) e rfl rfl fd_9_2 rfl (fun g6 e => ?_)
  refine wp_p (j := J_Sheet_init) 2 (pc' := 23) (lv' := [(0, .ref v0), (1, .ref v1)]) (st' := [.int 41, .ref v0]) rfl ?_
  refine x_nA e rfl rfl rfl (fun z7 g8 e => ?_)
  refine x_pR (r := (some z7)) e rfl rfl fd_9_3 rfl (fun g9 e => ?_)
  refine wp_p (j := J_Sheet_init) 2 (pc' := 31) (lv' := [(0, .ref v0), (1, .ref v1)]) (st' := [.int 123, .ref v0]) rfl ?_
  refine x_nA e rfl rfl rfl (fun z10 g11 e => ?_)
  refine x_pR (r := (some z10)) e rfl rfl fd_9_4 rfl (fun g12 e => ?_)
  refine wp_p (j := J_Sheet_init) 2 (pc' := 39) (lv' := [(0, .ref v0), (1, .ref v1)]) (st' := [.int 123, .ref v0]) rfl ?_
  refine x_nA e rfl rfl rfl (fun z13 g14 e => ?_)
  refine x_pR (r := (some z13)) e rfl rfl fd_9_5 rfl (fun g15 e => ?_)
  refine wp_p (j := J_Sheet_init) 2 (pc' := 48) (lv' := [(0, .ref v0), (1, .ref v1)]) (st' := [.int 492, .ref v0]) rfl ?_
  refine x_nA e rfl rfl rfl (fun z16 g17 e => ?_)
  refine x_pR (r := (some z16)) e rfl rfl fd_9_6 rfl (fun g18 e => ?_)
  refine wp_p (j := J_Sheet_init) 2 (pc' := 57) (lv' := [(0, .ref v0), (1, .ref v1)]) (st' := [.int 492, .ref v0]) rfl ?_
  refine x_nA e rfl rfl rfl (fun z19 g20 e => ?_)
  refine x_pR (r := (some z19)) e rfl rfl fd_9_7 rfl (fun g21 e => ?_)
  refine wp_p (j := J_Sheet_init) 2 (pc' := 66) (lv' := [(0, .ref v0), (1, .ref v1)]) (st' := [.int 440, .ref v0]) rfl ?_
  refine x_nA e rfl rfl rfl (fun z22 g23 e => ?_)
  refine x_pR (r := (some z22)) e rfl rfl fd_9_8 rfl (fun g24 e => ?_)
  refine wp_p (j := J_Sheet_init) 2 (pc' := 74) (lv' := [(0, .ref v0), (1, .ref v1)]) (st' := [.int 11, .ref v0]) rfl ?_
  refine x_nA e rfl rfl rfl (fun z25 g26 e => ?_)
  refine x_pR (r := (some z25)) e rfl rfl fd_9_9 rfl (fun g27 e => ?_)
  refine wp_p (j := J_Sheet_init) 2 (pc' := 83) (lv' := [(0, .ref v0), (1, .ref v1)]) (st' := [.int 1320, .ref v0]) rfl ?_
  refine x_nA e rfl rfl rfl (fun z28 g29 e => ?_)
  refine x_pR (r := (some z28)) e rfl rfl fd_9_10 rfl (fun g30 e => ?_)
  refine wp_p (j := J_Sheet_init) 1 (pc' := 89) (lv' := [(0, .ref v0), (1, .ref v1)]) (st' := [.ref v0]) rfl ?_
  refine x_ls rfl rfl ?_
  refine x_cs1 (As := [.ref 1000003]) (rest := [.ref v0]) Value.long e rfl rfl rfl rfl rfl (fun h => d_Bytes_pack_1 h ⟨rfl, rfl⟩) (fun z31 e => ?_)
  refine x_pL e rfl rfl fw_9_11 rfl (fun g32 e => ?_)
  refine wp_p (j := J_Sheet_init) 1 (pc' := 98) (lv' := [(0, .ref v0), (1, .ref v1)]) (st' := [.ref v0]) rfl ?_
  refine x_ls rfl rfl ?_
  refine x_cs1 (As := [.ref 1000004]) (rest := [.ref v0]) Value.long e rfl rfl rfl rfl rfl (fun h => d_Bytes_pack_1 h ⟨rfl, rfl⟩) (fun z33 e => ?_)
  refine x_pL e rfl rfl fw_9_12 rfl (fun g34 e => ?_)
  refine wp_p (j := J_Sheet_init) 2 (pc' := 108) (lv' := [(0, .ref v0), (1, .ref v1)]) (st' := [.int (-1), .ref v0]) rfl ?_
  refine x_pI e rfl rfl fw_9_14 rfl (fun g35 e => ?_)
  refine wp_p (j := J_Sheet_init) 2 (pc' := 113) (lv' := [(0, .ref v0), (1, .ref v1)]) (st' := [.ref v1, .ref v0]) rfl ?_
  refine x_pR (r := (some v1)) e rfl rfl fd_9_0 rfl (fun g36 e => ?_)
  have e := Option.some.inj e; subst e; exact wp_vret rfl rfl c
noncomputable def M_Box_init (v0 : Nat) (g : g_S) : Option g_S :=
  some g
set_option maxRecDepth 20000 in
theorem d_Box_init {L : Nat} {xs : Nat → Int32} {Q : Option Value → ab_H → Prop} {v0 : Nat} {g : g_S} {out : g_S} (e : M_Box_init v0 g = some out) (c : Q none (hp out)) : mw (ab_ext L xs) J_Box_init [.ref v0] (hp g) Q := by
  unfold M_Box_init at e
  refine wp_p (j := J_Box_init) 1 (pc' := 1) (lv' := [(0, .ref v0)]) (st' := [.ref v0]) rfl ?_
  refine wp_obj rfl (Nat.le_of_ble_eq_true rfl) ?_
  have e := Option.some.inj e; subst e; exact wp_vret rfl rfl c
def cL_Layout_init_85 (L : Nat) (xs : Nat → Int32) (Q : Option Value → ab_H → Prop) (v0 : Nat) (out : (Int32 × g_S) ⊕ (g_S)) : Prop := match out with
  | .inl s => wp (ab_ext L xs) J_Layout_init 85 [(0, .ref v0), (3, .int s.1)] [] (hp s.2) Q
  | .inr s => wp (ab_ext L xs) J_Layout_init 110 [] [] (hp s) Q
noncomputable def b_Layout_init_85 (v0 : Nat) (v3 : Int32) (g : g_S) : Option ((Int32 × g_S) ⊕ (g_S)) :=
  if v3 < 120 then
    (rQ g 105 v0 2).bind fun z1 =>
    c2 (nO g 103) fun z2 g3 =>
    (M_Box_init z2 g3).bind fun g4 =>
    (sQ g4 8 z1 v3 z2).bind fun g5 =>
    some (.inl (v3 + 1, g5))
  else
    some (.inr g)
set_option maxRecDepth 20000 in
theorem y_Layout_init_85 {L : Nat} {xs : Nat → Int32} {Q : Option Value → ab_H → Prop} {v0 : Nat} {v3 : Int32} {g : g_S} {out : (Int32 × g_S) ⊕ (g_S)} (e : b_Layout_init_85 v0 v3 g = some out) (c : cL_Layout_init_85 L xs Q v0 out) : wp (ab_ext L xs) J_Layout_init 85 [(0, .ref v0), (3, .int v3)] [] (hp g) Q := by
  unfold b_Layout_init_85 at e
  refine wp_p (j := J_Layout_init) 2 (pc' := 88) (lv' := [(0, .ref v0), (3, .int v3)]) (st' := [.int 120, .int v3]) rfl ?_
  refine x_ge e rfl (fun e => ?_) (fun e => ?_)
  · refine wp_p (j := J_Layout_init) 1 (pc' := 92) (lv' := [(0, .ref v0), (3, .int v3)]) (st' := [.ref v0]) rfl ?_
    refine x_gQ e rfl rfl fd_5_2 rfl (fun z1 e => ?_)
    refine wp_p (j := J_Layout_init) 1 (pc' := 96) (lv' := [(0, .ref v0), (3, .int v3)]) (st' := [.int v3, .ref z1]) rfl ?_
    refine x_nO e rfl rfl rfl (fun z2 g3 e => ?_)
    refine wp_p (j := J_Layout_init) 1 (pc' := 100) (lv' := [(0, .ref v0), (3, .int v3)]) (st' := [.ref z2, .ref z2, .int v3, .ref z1]) rfl ?_
    refine x_ci0 (As := []) (rest := [.ref z2, .int v3, .ref z1]) e rfl rfl rfl rfl rfl (fun h => d_Box_init h ⟨rfl, rfl⟩) (fun g4 e => ?_)
    refine x_sQ e rfl rfl rfl (fun g5 e => ?_)
    refine wp_p (j := J_Layout_init) 2 (pc' := 85) (lv' := [(3, .int (v3 + 1)), (0, .ref v0)]) (st' := []) rfl ?_
    have e := Option.some.inj e; subst e; exact wp_lv (lv' := [(0, .ref v0), (3, .int (v3 + 1))]) rfl ⟨rfl, rfl, trivial⟩ c
  · have e := Option.some.inj e; subst e; exact wp_lv (lv' := []) rfl trivial c
noncomputable def L_Layout_init_85 (v0 : Nat) (v3 : Int32) (g : g_S) : Option (g_S) := it (fun s : Int32 × g_S => b_Layout_init_85 v0 s.1 s.2) (v3, g)
theorem l_Layout_init_85 {L : Nat} {xs : Nat → Int32} {Q : Option Value → ab_H → Prop} {v0 : Nat} {v3 : Int32} {g : g_S} {r : g_S} (e : L_Layout_init_85 v0 v3 g = some r) (c : cL_Layout_init_85 L xs Q v0 (.inr r)) : wp (ab_ext L xs) J_Layout_init 85 [(0, .ref v0), (3, .int v3)] [] (hp g) Q :=
  it_wp (P := fun s : Int32 × g_S => wp (ab_ext L xs) J_Layout_init 85 [(0, .ref v0), (3, .int s.1)] [] (hp s.2) Q) (E := fun r => cL_Layout_init_85 L xs Q v0 (.inr r)) (fun s out e c => y_Layout_init_85 e (by cases out <;> exact c)) e c
theorem L_Layout_init_85_eq (v0 : Nat) (v3 : Int32) (g : g_S) : L_Layout_init_85 v0 v3 g = itc (b_Layout_init_85 v0 v3 g) (fun s => L_Layout_init_85 v0 s.1 s.2) := it_eq2 (fun s : Int32 × g_S => b_Layout_init_85 v0 s.1 s.2) (v3, g)
noncomputable def M_Layout_init (v0 : Nat) (v1 : Nat) (v2 : Nat) (g : g_S) : Option g_S :=
  c2 (nA g 8 120) fun z1 g2 =>
  (wR g2 105 v0 2 (some z1)).bind fun g3 =>
  (wI g3 105 v0 3 48).bind fun g4 =>
  (wI g4 105 v0 4 (-1)).bind fun g5 =>
  c2 (nA g5 0 384) fun z6 g7 =>
  (wR g7 105 v0 5 (some z6)).bind fun g8 =>
  c2 (nO g8 104) fun z9 g10 =>
  (M_Bytes_init z9 48000 g10).bind fun g11 =>
  (wR g11 105 v0 7 (some z9)).bind fun g12 =>
  c2 (nO g12 103) fun z13 g14 =>
  (M_Box_init z13 g14).bind fun g15 =>
  (wR g15 105 v0 8 (some z13)).bind fun g16 =>
  c2 (nA g16 0 64) fun z17 g18 =>
  (wR g18 105 v0 9 (some z17)).bind fun g19 =>
  c2 (nA g19 0 120) fun z20 g21 =>
  (wR g21 105 v0 16 (some z20)).bind fun g22 =>
  (wR g22 105 v0 0 (some v1)).bind fun g23 =>
  (wR g23 105 v0 1 (some v2)).bind fun g24 =>
  (L_Layout_init_85 v0 0 g24).bind <| fun g27 =>
  some g27
set_option maxRecDepth 20000 in
theorem d_Layout_init {L : Nat} {xs : Nat → Int32} {Q : Option Value → ab_H → Prop} {v0 : Nat} {v1 : Nat} {v2 : Nat} {g : g_S} {out : g_S} (e : M_Layout_init v0 v1 v2 g = some out) (c : Q none (hp out)) : mw (ab_ext L xs) J_Layout_init [.ref v0, .ref v1, .ref v2] (hp g) Q := by
  unfold M_Layout_init at e
  refine wp_p (j := J_Layout_init) 1 (pc' := 1) (lv' := [(0, .ref v0), (1, .ref v1), (2, .ref v2)]) (st' := [.ref v0]) rfl ?_
  refine wp_obj rfl (Nat.le_of_ble_eq_true rfl) ?_
  refine wp_p (j := J_Layout_init) 2 (pc' := 7) (lv' := [(0, .ref v0), (1, .ref v1), (2, .ref v2)]) (st' := [.int 120, .ref v0]) rfl ?_
  refine x_nQ e rfl rfl rfl (fun z1 g2 e => ?_)
  refine x_pR (r := (some z1)) e rfl rfl fd_5_2 rfl (fun g3 e => ?_)
  refine wp_p (j := J_Layout_init) 2 (pc' := 16) (lv' := [(0, .ref v0), (1, .ref v1), (2, .ref v2)]) (st' := [.int 48, .ref v0]) rfl ?_
  refine x_pI e rfl rfl fw_5_3 rfl (fun g4 e => ?_)
  refine wp_p (j := J_Layout_init) 2 (pc' := 21) (lv' := [(0, .ref v0), (1, .ref v1), (2, .ref v2)]) (st' := [.int (-1), .ref v0]) rfl ?_
  refine x_pI e rfl rfl fw_5_4 rfl (fun g5 e => ?_)
  refine wp_p (j := J_Layout_init) 2 (pc' := 28) (lv' := [(0, .ref v0), (1, .ref v1), (2, .ref v2)]) (st' := [.int 384, .ref v0]) rfl ?_
  refine x_nA e rfl rfl rfl (fun z6 g7 e => ?_)
  refine x_pR (r := (some z6)) e rfl rfl fd_5_5 rfl (fun g8 e => ?_)
  refine wp_p (j := J_Layout_init) 1 (pc' := 34) (lv' := [(0, .ref v0), (1, .ref v1), (2, .ref v2)]) (st' := [.ref v0]) rfl ?_
  refine x_nO e rfl rfl rfl (fun z9 g10 e => ?_)
  refine wp_p (j := J_Layout_init) 1 (pc' := 38) (lv' := [(0, .ref v0), (1, .ref v1), (2, .ref v2)]) (st' := [.ref z9, .ref z9, .ref v0]) rfl ?_
  refine x_ld (x := 48000) rfl rfl rfl ?_
  refine x_ci0 (As := [.int 48000]) (rest := [.ref z9, .ref v0]) e rfl rfl rfl rfl rfl (fun h => d_Bytes_init h ⟨rfl, rfl⟩) (fun g11 e => ?_)
  refine x_pR (r := (some z9)) e rfl rfl fd_5_7 rfl (fun g12 e => ?_)
  refine wp_p (j := J_Layout_init) 1 (pc' := 47) (lv' := [(0, .ref v0), (1, .ref v1), (2, .ref v2)]) (st' := [.ref v0]) rfl ?_
  refine x_nO e rfl rfl rfl (fun z13 g14 e => ?_)
  refine wp_p (j := J_Layout_init) 1 (pc' := 51) (lv' := [(0, .ref v0), (1, .ref v1), (2, .ref v2)]) (st' := [.ref z13, .ref z13, .ref v0]) rfl ?_
  refine x_ci0 (As := []) (rest := [.ref z13, .ref v0]) e rfl rfl rfl rfl rfl (fun h => d_Box_init h ⟨rfl, rfl⟩) (fun g15 e => ?_)
  refine x_pR (r := (some z13)) e rfl rfl fd_5_8 rfl (fun g16 e => ?_)
  refine wp_p (j := J_Layout_init) 2 (pc' := 60) (lv' := [(0, .ref v0), (1, .ref v1), (2, .ref v2)]) (st' := [.int 64, .ref v0]) rfl ?_
  refine x_nA e rfl rfl rfl (fun z17 g18 e => ?_)
  refine x_pR (r := (some z17)) e rfl rfl fd_5_9 rfl (fun g19 e => ?_)
  refine wp_p (j := J_Layout_init) 2 (pc' := 68) (lv' := [(0, .ref v0), (1, .ref v1), (2, .ref v2)]) (st' := [.int 120, .ref v0]) rfl ?_
  refine x_nA e rfl rfl rfl (fun z20 g21 e => ?_)
  refine x_pR (r := (some z20)) e rfl rfl fd_5_16 rfl (fun g22 e => ?_)
  refine wp_p (j := J_Layout_init) 2 (pc' := 75) (lv' := [(0, .ref v0), (1, .ref v1), (2, .ref v2)]) (st' := [.ref v1, .ref v0]) rfl ?_
  refine x_pR (r := (some v1)) e rfl rfl fd_5_0 rfl (fun g23 e => ?_)
  refine wp_p (j := J_Layout_init) 2 (pc' := 80) (lv' := [(0, .ref v0), (1, .ref v1), (2, .ref v2)]) (st' := [.ref v2, .ref v0]) rfl ?_
  refine x_pR (r := (some v2)) e rfl rfl fd_5_1 rfl (fun g24 e => ?_)
  refine wp_p (j := J_Layout_init) 2 (pc' := 85) (lv' := [(3, .int 0), (0, .ref v0), (1, .ref v1), (2, .ref v2)]) (st' := []) rfl ?_
  obtain ⟨g27, h26, e⟩ := bd e
  refine wp_lv (lv' := [(0, .ref v0), (3, .int 0)]) rfl ⟨rfl, rfl, trivial⟩ ?_
  refine l_Layout_init_85 h26 ?_
  show wp (ab_ext L xs) J_Layout_init 110 [] [] (hp g27) Q
  have e := Option.some.inj e; subst e; exact wp_vret rfl rfl c
def cL_Acts_init_86 (L : Nat) (xs : Nat → Int32) (Q : Option Value → ab_H → Prop) (v0 : Nat) (out : (Int32 × g_S) ⊕ (g_S)) : Prop := match out with
  | .inl s => wp (ab_ext L xs) J_Acts_init 86 [(0, .ref v0), (4, .int s.1)] [] (hp s.2) Q
  | .inr s => wp (ab_ext L xs) J_Acts_init 115 [] [] (hp s) Q
noncomputable def b_Acts_init_86 (v0 : Nat) (v4 : Int32) (g : g_S) : Option ((Int32 × g_S) ⊕ (g_S)) :=
  if v4 < 20 then
    (rQ g 100 v0 4).bind fun z1 =>
    c2 (nO g 104) fun z2 g3 =>
    (M_Bytes_init z2 60 g3).bind fun g4 =>
    (sQ g4 4 z1 v4 z2).bind fun g5 =>
    some (.inl (v4 + 1, g5))
  else
    some (.inr g)
set_option maxRecDepth 20000 in
theorem y_Acts_init_86 {L : Nat} {xs : Nat → Int32} {Q : Option Value → ab_H → Prop} {v0 : Nat} {v4 : Int32} {g : g_S} {out : (Int32 × g_S) ⊕ (g_S)} (e : b_Acts_init_86 v0 v4 g = some out) (c : cL_Acts_init_86 L xs Q v0 out) : wp (ab_ext L xs) J_Acts_init 86 [(0, .ref v0), (4, .int v4)] [] (hp g) Q := by
  unfold b_Acts_init_86 at e
  refine wp_p (j := J_Acts_init) 2 (pc' := 90) (lv' := [(0, .ref v0), (4, .int v4)]) (st' := [.int 20, .int v4]) rfl ?_
  refine x_ge e rfl (fun e => ?_) (fun e => ?_)
  · refine wp_p (j := J_Acts_init) 1 (pc' := 94) (lv' := [(0, .ref v0), (4, .int v4)]) (st' := [.ref v0]) rfl ?_
    refine x_gQ e rfl rfl fd_0_4 rfl (fun z1 e => ?_)
    refine wp_p (j := J_Acts_init) 1 (pc' := 99) (lv' := [(0, .ref v0), (4, .int v4)]) (st' := [.int v4, .ref z1]) rfl ?_
    refine x_nO e rfl rfl rfl (fun z2 g3 e => ?_)
    refine wp_p (j := J_Acts_init) 2 (pc' := 105) (lv' := [(0, .ref v0), (4, .int v4)]) (st' := [.int 60, .ref z2, .ref z2, .int v4, .ref z1]) rfl ?_
    refine x_ci0 (As := [.int 60]) (rest := [.ref z2, .int v4, .ref z1]) e rfl rfl rfl rfl rfl (fun h => d_Bytes_init h ⟨rfl, rfl⟩) (fun g4 e => ?_)
    refine x_sQ e rfl rfl rfl (fun g5 e => ?_)
    refine wp_p (j := J_Acts_init) 2 (pc' := 86) (lv' := [(4, .int (v4 + 1)), (0, .ref v0)]) (st' := []) rfl ?_
    have e := Option.some.inj e; subst e; exact wp_lv (lv' := [(0, .ref v0), (4, .int (v4 + 1))]) rfl ⟨rfl, rfl, trivial⟩ c
  · have e := Option.some.inj e; subst e; exact wp_lv (lv' := []) rfl trivial c
noncomputable def L_Acts_init_86 (v0 : Nat) (v4 : Int32) (g : g_S) : Option (g_S) := it (fun s : Int32 × g_S => b_Acts_init_86 v0 s.1 s.2) (v4, g)
theorem l_Acts_init_86 {L : Nat} {xs : Nat → Int32} {Q : Option Value → ab_H → Prop} {v0 : Nat} {v4 : Int32} {g : g_S} {r : g_S} (e : L_Acts_init_86 v0 v4 g = some r) (c : cL_Acts_init_86 L xs Q v0 (.inr r)) : wp (ab_ext L xs) J_Acts_init 86 [(0, .ref v0), (4, .int v4)] [] (hp g) Q :=
  it_wp (P := fun s : Int32 × g_S => wp (ab_ext L xs) J_Acts_init 86 [(0, .ref v0), (4, .int s.1)] [] (hp s.2) Q) (E := fun r => cL_Acts_init_86 L xs Q v0 (.inr r)) (fun s out e c => y_Acts_init_86 e (by cases out <;> exact c)) e c
theorem L_Acts_init_86_eq (v0 : Nat) (v4 : Int32) (g : g_S) : L_Acts_init_86 v0 v4 g = itc (b_Acts_init_86 v0 v4 g) (fun s => L_Acts_init_86 v0 s.1 s.2) := it_eq2 (fun s : Int32 × g_S => b_Acts_init_86 v0 s.1 s.2) (v4, g)
noncomputable def M_Acts_init (v0 : Nat) (v1 : Nat) (v2 : Nat) (v3 : Nat) (g : g_S) : Option g_S :=
  c2 (nA g 3 40) fun z1 g2 =>
  (wR g2 100 v0 3 (some z1)).bind fun g3 =>
  c2 (nA g3 4 20) fun z4 g5 =>
  (wR g5 100 v0 4 (some z4)).bind fun g6 =>
  (wL g6 100 v0 6 (-1)).bind fun g7 =>
  c2 (nO g7 104) fun z8 g9 =>
  (M_Bytes_init z8 2000 g9).bind fun g10 =>
  (wR g10 100 v0 11 (some z8)).bind fun g11 =>
  c2 (nA g11 3 120) fun z12 g13 =>
  (wR g13 100 v0 14 (some z12)).bind fun g14 =>
  (wI g14 100 v0 17 (-1)).bind fun g15 =>
  c2 (nO g15 104) fun z16 g17 =>
  (M_Bytes_init z16 40 g17).bind fun g18 =>
  (wR g18 100 v0 19 (some z16)).bind fun g19 =>
  (wR g19 100 v0 0 (some v1)).bind fun g20 =>
  (wR g20 100 v0 1 (some v2)).bind fun g21 =>
  (wR g21 100 v0 2 (some v3)).bind fun g22 =>
  (L_Acts_init_86 v0 0 g22).bind <| fun g25 =>
  some g25
set_option maxRecDepth 20000 in
theorem d_Acts_init {L : Nat} {xs : Nat → Int32} {Q : Option Value → ab_H → Prop} {v0 : Nat} {v1 : Nat} {v2 : Nat} {v3 : Nat} {g : g_S} {out : g_S} (e : M_Acts_init v0 v1 v2 v3 g = some out) (c : Q none (hp out)) : mw (ab_ext L xs) J_Acts_init [.ref v0, .ref v1, .ref v2, .ref v3] (hp g) Q := by
  unfold M_Acts_init at e
  refine wp_p (j := J_Acts_init) 1 (pc' := 1) (lv' := [(0, .ref v0), (1, .ref v1), (2, .ref v2), (3, .ref v3)]) (st' := [.ref v0]) rfl ?_
  refine wp_obj rfl (Nat.le_of_ble_eq_true rfl) ?_
  refine wp_p (j := J_Acts_init) 2 (pc' := 7) (lv' := [(0, .ref v0), (1, .ref v1), (2, .ref v2), (3, .ref v3)]) (st' := [.int 40, .ref v0]) rfl ?_
  refine x_nA e rfl rfl rfl (fun z1 g2 e => ?_)
  refine x_pR (r := (some z1)) e rfl rfl fd_0_3 rfl (fun g3 e => ?_)
  refine wp_p (j := J_Acts_init) 2 (pc' := 15) (lv' := [(0, .ref v0), (1, .ref v1), (2, .ref v2), (3, .ref v3)]) (st' := [.int 20, .ref v0]) rfl ?_
  refine x_nQ e rfl rfl rfl (fun z4 g5 e => ?_)
  refine x_pR (r := (some z4)) e rfl rfl fd_0_4 rfl (fun g6 e => ?_)
  refine wp_p (j := J_Acts_init) 1 (pc' := 22) (lv' := [(0, .ref v0), (1, .ref v1), (2, .ref v2), (3, .ref v3)]) (st' := [.ref v0]) rfl ?_
  refine x_l2 (xl := (-1)) rfl rfl rfl ?_
  refine x_pL e rfl rfl fw_0_6 rfl (fun g7 e => ?_)
  refine wp_p (j := J_Acts_init) 1 (pc' := 29) (lv' := [(0, .ref v0), (1, .ref v1), (2, .ref v2), (3, .ref v3)]) (st' := [.ref v0]) rfl ?_
  refine x_nO e rfl rfl rfl (fun z8 g9 e => ?_)
  refine wp_p (j := J_Acts_init) 2 (pc' := 36) (lv' := [(0, .ref v0), (1, .ref v1), (2, .ref v2), (3, .ref v3)]) (st' := [.int 2000, .ref z8, .ref z8, .ref v0]) rfl ?_
  refine x_ci0 (As := [.int 2000]) (rest := [.ref z8, .ref v0]) e rfl rfl rfl rfl rfl (fun h => d_Bytes_init h ⟨rfl, rfl⟩) (fun g10 e => ?_)
  refine x_pR (r := (some z8)) e rfl rfl fd_0_11 rfl (fun g11 e => ?_)
  refine wp_p (j := J_Acts_init) 2 (pc' := 45) (lv' := [(0, .ref v0), (1, .ref v1), (2, .ref v2), (3, .ref v3)]) (st' := [.int 120, .ref v0]) rfl ?_
  refine x_nA e rfl rfl rfl (fun z12 g13 e => ?_)
  refine x_pR (r := (some z12)) e rfl rfl fd_0_14 rfl (fun g14 e => ?_)
  refine wp_p (j := J_Acts_init) 2 (pc' := 52) (lv' := [(0, .ref v0), (1, .ref v1), (2, .ref v2), (3, .ref v3)]) (st' := [.int (-1), .ref v0]) rfl ?_
  refine x_pI e rfl rfl fw_0_17 rfl (fun g15 e => ?_)
  refine wp_p (j := J_Acts_init) 1 (pc' := 56) (lv' := [(0, .ref v0), (1, .ref v1), (2, .ref v2), (3, .ref v3)]) (st' := [.ref v0]) rfl ?_
  refine x_nO e rfl rfl rfl (fun z16 g17 e => ?_)
  refine wp_p (j := J_Acts_init) 2 (pc' := 62) (lv' := [(0, .ref v0), (1, .ref v1), (2, .ref v2), (3, .ref v3)]) (st' := [.int 40, .ref z16, .ref z16, .ref v0]) rfl ?_
  refine x_ci0 (As := [.int 40]) (rest := [.ref z16, .ref v0]) e rfl rfl rfl rfl rfl (fun h => d_Bytes_init h ⟨rfl, rfl⟩) (fun g18 e => ?_)
  refine x_pR (r := (some z16)) e rfl rfl fd_0_19 rfl (fun g19 e => ?_)
  refine wp_p (j := J_Acts_init) 2 (pc' := 70) (lv' := [(0, .ref v0), (1, .ref v1), (2, .ref v2), (3, .ref v3)]) (st' := [.ref v1, .ref v0]) rfl ?_
  refine x_pR (r := (some v1)) e rfl rfl fd_0_0 rfl (fun g20 e => ?_)
  refine wp_p (j := J_Acts_init) 2 (pc' := 75) (lv' := [(0, .ref v0), (1, .ref v1), (2, .ref v2), (3, .ref v3)]) (st' := [.ref v2, .ref v0]) rfl ?_
  refine x_pR (r := (some v2)) e rfl rfl fd_0_1 rfl (fun g21 e => ?_)
  refine wp_p (j := J_Acts_init) 2 (pc' := 80) (lv' := [(0, .ref v0), (1, .ref v1), (2, .ref v2), (3, .ref v3)]) (st' := [.ref v3, .ref v0]) rfl ?_
  refine x_pR (r := (some v3)) e rfl rfl fd_0_2 rfl (fun g22 e => ?_)
  refine wp_p (j := J_Acts_init) 2 (pc' := 86) (lv' := [(4, .int 0), (0, .ref v0), (1, .ref v1), (2, .ref v2), (3, .ref v3)]) (st' := []) rfl ?_
  obtain ⟨g25, h24, e⟩ := bd e
  refine wp_lv (lv' := [(0, .ref v0), (4, .int 0)]) rfl ⟨rfl, rfl, trivial⟩ ?_
  refine l_Acts_init_86 h24 ?_
  show wp (ab_ext L xs) J_Acts_init 115 [] [] (hp g25) Q
  have e := Option.some.inj e; subst e; exact wp_vret rfl rfl c
noncomputable def M_Bytes_clear (v0 : Nat) (g : g_S) : Option g_S :=
  (wI g 104 v0 2 0).bind fun g1 =>
  some g1
set_option maxRecDepth 20000 in
theorem d_Bytes_clear {L : Nat} {xs : Nat → Int32} {Q : Option Value → ab_H → Prop} {v0 : Nat} {g : g_S} {out : g_S} (e : M_Bytes_clear v0 g = some out) (c : Q none (hp out)) : mw (ab_ext L xs) J_Bytes_clear [.ref v0] (hp g) Q := by
  unfold M_Bytes_clear at e
  refine wp_p (j := J_Bytes_clear) 2 (pc' := 2) (lv' := [(0, .ref v0)]) (st' := [.int 0, .ref v0]) rfl ?_
  refine x_pI e rfl rfl fw_4_2 rfl (fun g1 e => ?_)
  have e := Option.some.inj e; subst e; exact wp_vret rfl rfl c
def cL_Tree_grow_3 (L : Nat) (xs : Nat → Int32) (Q : Option Value → ab_H → Prop) (v0 : Nat) (v1 : Int32) (v2 : Int32) (v3 : Int64) (g : g_S) (out : (Int32) ⊕ (Int32)) : Prop := match out with
  | .inl s => wp (ab_ext L xs) J_Tree_grow 3 [(0, .ref v0), (1, .int v1), (2, .int v2), (3, .long v3), (5, .int s)] [] (hp g) Q
  | .inr s => wp (ab_ext L xs) J_Tree_grow 30 [(0, .ref v0), (1, .int v1), (2, .int v2), (3, .long v3), (5, .int s)] [] (hp g) Q
noncomputable def b_Tree_grow_3 (v0 : Nat) (v1 : Int32) (v2 : Int32) (v3 : Int64) (v5 : Int32) (g : g_S) : Option ((Int32) ⊕ (Int32)) :=
  if v5 < 119 then
    (rQ g 110 v0 0).bind fun z1 =>
    (aQ g 5 z1 v5).bind fun z2 =>
    (rI g 107 z2 0).bind fun z3 =>
    if z3 = (-1) then
      some (.inr v5)
    else
      some (.inl (v5 + 1))
  else
    some (.inr v5)
set_option maxRecDepth 20000 in
theorem y_Tree_grow_3 {L : Nat} {xs : Nat → Int32} {Q : Option Value → ab_H → Prop} {v0 : Nat} {v1 : Int32} {v2 : Int32} {v3 : Int64} {v5 : Int32} {g : g_S} {out : (Int32) ⊕ (Int32)} (e : b_Tree_grow_3 v0 v1 v2 v3 v5 g = some out) (c : cL_Tree_grow_3 L xs Q v0 v1 v2 v3 g out) : wp (ab_ext L xs) J_Tree_grow 3 [(0, .ref v0), (1, .int v1), (2, .int v2), (3, .long v3), (5, .int v5)] [] (hp g) Q := by
  unfold b_Tree_grow_3 at e
  refine wp_p (j := J_Tree_grow) 2 (pc' := 7) (lv' := [(0, .ref v0), (1, .int v1), (2, .int v2), (3, .long v3), (5, .int v5)]) (st' := [.int 119, .int v5]) rfl ?_
  refine x_ge e rfl (fun e => ?_) (fun e => ?_)
  · refine wp_p (j := J_Tree_grow) 1 (pc' := 11) (lv' := [(0, .ref v0), (1, .int v1), (2, .int v2), (3, .long v3), (5, .int v5)]) (st' := [.ref v0]) rfl ?_
    refine x_gQ e rfl rfl fd_10_0 rfl (fun z1 e => ?_)
    refine wp_p (j := J_Tree_grow) 1 (pc' := 16) (lv' := [(0, .ref v0), (1, .int v1), (2, .int v2), (3, .long v3), (5, .int v5)]) (st' := [.int v5, .ref z1]) rfl ?_
    refine x_aQ e rfl rfl rfl (fun z2 e => ?_)
    refine x_gI e rfl rfl fd_7_0 rfl (fun z3 e => ?_)
    refine wp_p (j := J_Tree_grow) 1 (pc' := 21) (lv' := [(0, .ref v0), (1, .int v1), (2, .int v2), (3, .long v3), (5, .int v5)]) (st' := [.int (-1), .int z3]) rfl ?_
    refine x_eq e rfl (fun e => ?_) (fun e => ?_)
    · have e := Option.some.inj e; subst e; exact wp_lv (lv' := [(0, .ref v0), (1, .int v1), (2, .int v2), (3, .long v3), (5, .int v5)]) rfl ⟨rfl, rfl, rfl, rfl, rfl, trivial⟩ c
    · refine wp_p (j := J_Tree_grow) 2 (pc' := 3) (lv' := [(5, .int (v5 + 1)), (0, .ref v0), (1, .int v1), (2, .int v2), (3, .long v3)]) (st' := []) rfl ?_
      have e := Option.some.inj e; subst e; exact wp_lv (lv' := [(0, .ref v0), (1, .int v1), (2, .int v2), (3, .long v3), (5, .int (v5 + 1))]) rfl ⟨rfl, rfl, rfl, rfl, rfl, trivial⟩ c
  · have e := Option.some.inj e; subst e; exact wp_lv (lv' := [(0, .ref v0), (1, .int v1), (2, .int v2), (3, .long v3), (5, .int v5)]) rfl ⟨rfl, rfl, rfl, rfl, rfl, trivial⟩ c
noncomputable def L_Tree_grow_3 (v0 : Nat) (v1 : Int32) (v2 : Int32) (v3 : Int64) (v5 : Int32) (g : g_S) : Option (Int32) := it (fun s : Int32 => b_Tree_grow_3 v0 v1 v2 v3 s g) (v5)
theorem l_Tree_grow_3 {L : Nat} {xs : Nat → Int32} {Q : Option Value → ab_H → Prop} {v0 : Nat} {v1 : Int32} {v2 : Int32} {v3 : Int64} {v5 : Int32} {g : g_S} {r : Int32} (e : L_Tree_grow_3 v0 v1 v2 v3 v5 g = some r) (c : cL_Tree_grow_3 L xs Q v0 v1 v2 v3 g (.inr r)) : wp (ab_ext L xs) J_Tree_grow 3 [(0, .ref v0), (1, .int v1), (2, .int v2), (3, .long v3), (5, .int v5)] [] (hp g) Q :=
  it_wp (P := fun s : Int32 => wp (ab_ext L xs) J_Tree_grow 3 [(0, .ref v0), (1, .int v1), (2, .int v2), (3, .long v3), (5, .int s)] [] (hp g) Q) (E := fun r => cL_Tree_grow_3 L xs Q v0 v1 v2 v3 g (.inr r)) (fun s out e c => y_Tree_grow_3 e (by cases out <;> exact c)) e c
theorem L_Tree_grow_3_eq (v0 : Nat) (v1 : Int32) (v2 : Int32) (v3 : Int64) (v5 : Int32) (g : g_S) : L_Tree_grow_3 v0 v1 v2 v3 v5 g = itc (b_Tree_grow_3 v0 v1 v2 v3 v5 g) (fun s => L_Tree_grow_3 v0 v1 v2 v3 s g) := it_eq2 (fun s : Int32 => b_Tree_grow_3 v0 v1 v2 v3 s g) (v5)
noncomputable def k_Tree_grow_214 (v5 : Int32) (v7 : Nat) (g : g_S) : Option (Int32 × g_S) :=
  (wI g 107 v7 4 v5).bind fun g1 =>
  (rI g1 107 v7 6).bind fun z2 =>
  (wI g1 107 v7 6 (z2 + 1)).bind fun g3 =>
  some (v5, g3)
set_option maxRecDepth 20000 in
theorem x_Tree_grow_214 {L : Nat} {xs : Nat → Int32} {Q : Option Value → ab_H → Prop} {v5 : Int32} {v7 : Nat} {g : g_S} {out : Int32 × g_S} (e : k_Tree_grow_214 v5 v7 g = some out) (c : Q (some (.int out.1)) (hp out.2)) : wp (ab_ext L xs) J_Tree_grow 214 [(5, .int v5), (7, .ref v7)] [] (hp g) Q := by
  unfold k_Tree_grow_214 at e
  refine wp_p (j := J_Tree_grow) 2 (pc' := 218) (lv' := [(5, .int v5), (7, .ref v7)]) (st' := [.int v5, .ref v7]) rfl ?_
  refine x_pI e rfl rfl fw_7_4 rfl (fun g1 e => ?_)
  refine wp_p (j := J_Tree_grow) 2 (pc' := 224) (lv' := [(5, .int v5), (7, .ref v7)]) (st' := [.ref v7, .ref v7]) rfl ?_
  refine x_gI e rfl rfl fd_7_6 rfl (fun z2 e => ?_)
  refine wp_p (j := J_Tree_grow) 2 (pc' := 229) (lv' := [(5, .int v5), (7, .ref v7)]) (st' := [.int (z2 + 1), .ref v7]) rfl ?_
  refine x_pI e rfl rfl fw_7_6 rfl (fun g3 e => ?_)
  refine wp_p (j := J_Tree_grow) 1 (pc' := 234) (lv' := [(5, .int v5), (7, .ref v7)]) (st' := [.int v5]) rfl ?_
  have e := Option.some.inj e; subst e; exact wp_iret (ty := .int) rfl rfl rfl c
noncomputable def k_Tree_grow_30 (v0 : Nat) (v1 : Int32) (v2 : Int32) (v3 : Int64) (v5 : Int32) (g : g_S) : Option (Int32 × g_S) :=
  (rQ g 110 v0 0).bind fun z1 =>
  (aQ g 5 z1 v5).bind fun z2 =>
  (wI g 107 z2 0 v2).bind fun g3 =>
  (wL g3 107 z2 1 v3).bind fun g4 =>
  (wI g4 107 z2 2 v1).bind fun g5 =>
  (wI g5 107 z2 3 (-1)).bind fun g6 =>
  (wI g6 107 z2 4 (-1)).bind fun g7 =>
  (wI g7 107 z2 5 (-1)).bind fun g8 =>
  (wI g8 107 z2 6 0).bind fun g9 =>
  (wI g9 107 z2 7 0).bind fun g10 =>
  (wI g10 107 z2 12 0).bind fun g11 =>
  (rQ g11 107 z2 11).bind fun z12 =>
  (vc g11 104 z12 (M_Bytes_clear z12 g11)).bind fun g13 =>
  (wZ g13 107 z2 15 0).bind fun g14 =>
  (wZ g14 107 z2 16 0).bind fun g15 =>
  (rL g15 110 v0 7).bind fun z16 =>
  (wL g15 110 v0 7 (z16 + 1)).bind fun g17 =>
  (rL g17 110 v0 7).bind fun z18 =>
  (wL g17 107 z2 10 z18).bind fun g19 =>
  (rI g19 110 v0 5).bind fun z20 =>
  (wI g19 110 v0 5 (z20 + 1)).bind fun g21 =>
  (rI g21 110 v0 6).bind fun z22 =>
  (wI g21 110 v0 6 (z22 + 1)).bind fun g23 =>
  if v1 = (-1) then
    some (v5, g23)
  else
    (rQ g23 110 v0 0).bind fun z24 =>
    (aQ g23 5 z24 v1).bind fun z25 =>
    (rI g23 107 z25 7).bind fun z26 =>
    (wI g23 107 z2 7 (z26 + 1)).bind fun g27 =>
    (rI g27 107 z25 4).bind fun z28 =>
    if z28 = (-1) then
      (wI g27 107 z25 3 v5).bind fun g29 =>
      k_Tree_grow_214 v5 z25 g29
    else
      (rQ g27 110 v0 0).bind fun z30 =>
      (rI g27 107 z25 4).bind fun z31 =>
      (aQ g27 5 z30 z31).bind fun z32 =>
      (wI g27 107 z32 5 v5).bind fun g33 =>
      k_Tree_grow_214 v5 z25 g33
set_option maxRecDepth 20000 in
theorem x_Tree_grow_30 {L : Nat} {xs : Nat → Int32} {Q : Option Value → ab_H → Prop} {v0 : Nat} {v1 : Int32} {v2 : Int32} {v3 : Int64} {v5 : Int32} {g : g_S} {out : Int32 × g_S} (e : k_Tree_grow_30 v0 v1 v2 v3 v5 g = some out) (c : Q (some (.int out.1)) (hp out.2)) : wp (ab_ext L xs) J_Tree_grow 30 [(0, .ref v0), (1, .int v1), (2, .int v2), (3, .long v3), (5, .int v5)] [] (hp g) Q := by
  unfold k_Tree_grow_30 at e
  refine wp_p (j := J_Tree_grow) 1 (pc' := 31) (lv' := [(0, .ref v0), (1, .int v1), (2, .int v2), (3, .long v3), (5, .int v5)]) (st' := [.ref v0]) rfl ?_
  refine x_gQ e rfl rfl fd_10_0 rfl (fun z1 e => ?_)
  refine wp_p (j := J_Tree_grow) 1 (pc' := 36) (lv' := [(0, .ref v0), (1, .int v1), (2, .int v2), (3, .long v3), (5, .int v5)]) (st' := [.int v5, .ref z1]) rfl ?_
  refine x_aQ e rfl rfl rfl (fun z2 e => ?_)
  refine wp_p (j := J_Tree_grow) 3 (pc' := 42) (lv' := [(6, .ref z2), (0, .ref v0), (1, .int v1), (2, .int v2), (3, .long v3), (5, .int v5)]) (st' := [.int v2, .ref z2]) rfl ?_
  refine x_pI e rfl rfl fw_7_0 rfl (fun g3 e => ?_)
  refine wp_p (j := J_Tree_grow) 2 (pc' := 48) (lv' := [(6, .ref z2), (0, .ref v0), (1, .int v1), (2, .int v2), (3, .long v3), (5, .int v5)]) (st' := [.long v3, .ref z2]) rfl ?_
  refine x_pL e rfl rfl fw_7_1 rfl (fun g4 e => ?_)
  refine wp_p (j := J_Tree_grow) 2 (pc' := 54) (lv' := [(6, .ref z2), (0, .ref v0), (1, .int v1), (2, .int v2), (3, .long v3), (5, .int v5)]) (st' := [.int v1, .ref z2]) rfl ?_
  refine x_pI e rfl rfl fw_7_2 rfl (fun g5 e => ?_)
  refine wp_p (j := J_Tree_grow) 2 (pc' := 60) (lv' := [(6, .ref z2), (0, .ref v0), (1, .int v1), (2, .int v2), (3, .long v3), (5, .int v5)]) (st' := [.int (-1), .ref z2]) rfl ?_
  refine x_pI e rfl rfl fw_7_3 rfl (fun g6 e => ?_)
  refine wp_p (j := J_Tree_grow) 2 (pc' := 66) (lv' := [(6, .ref z2), (0, .ref v0), (1, .int v1), (2, .int v2), (3, .long v3), (5, .int v5)]) (st' := [.int (-1), .ref z2]) rfl ?_
  refine x_pI e rfl rfl fw_7_4 rfl (fun g7 e => ?_)
  refine wp_p (j := J_Tree_grow) 2 (pc' := 72) (lv' := [(6, .ref z2), (0, .ref v0), (1, .int v1), (2, .int v2), (3, .long v3), (5, .int v5)]) (st' := [.int (-1), .ref z2]) rfl ?_
  refine x_pI e rfl rfl fw_7_5 rfl (fun g8 e => ?_)
  refine wp_p (j := J_Tree_grow) 2 (pc' := 78) (lv' := [(6, .ref z2), (0, .ref v0), (1, .int v1), (2, .int v2), (3, .long v3), (5, .int v5)]) (st' := [.int 0, .ref z2]) rfl ?_
  refine x_pI e rfl rfl fw_7_6 rfl (fun g9 e => ?_)
  refine wp_p (j := J_Tree_grow) 2 (pc' := 84) (lv' := [(6, .ref z2), (0, .ref v0), (1, .int v1), (2, .int v2), (3, .long v3), (5, .int v5)]) (st' := [.int 0, .ref z2]) rfl ?_
  refine x_pI e rfl rfl fw_7_7 rfl (fun g10 e => ?_)
  refine wp_p (j := J_Tree_grow) 2 (pc' := 90) (lv' := [(6, .ref z2), (0, .ref v0), (1, .int v1), (2, .int v2), (3, .long v3), (5, .int v5)]) (st' := [.int 0, .ref z2]) rfl ?_
  refine x_pI e rfl rfl fw_7_12 rfl (fun g11 e => ?_)
  refine wp_p (j := J_Tree_grow) 1 (pc' := 95) (lv' := [(6, .ref z2), (0, .ref v0), (1, .int v1), (2, .int v2), (3, .long v3), (5, .int v5)]) (st' := [.ref z2]) rfl ?_
  refine x_gQ e rfl rfl fd_7_11 rfl (fun z12 e => ?_)
  refine x_cv0 (As := []) (rest := []) e rfl rfl rfl rfl rfl rfl (fun h => d_Bytes_clear h ⟨rfl, rfl⟩) (fun g13 e => ?_)
  refine wp_p (j := J_Tree_grow) 2 (pc' := 104) (lv' := [(6, .ref z2), (0, .ref v0), (1, .int v1), (2, .int v2), (3, .long v3), (5, .int v5)]) (st' := [.int 0, .ref z2]) rfl ?_
  refine x_pZ e rfl rfl fw_7_15 rfl (fun g14 e => ?_)
  refine wp_p (j := J_Tree_grow) 2 (pc' := 110) (lv' := [(6, .ref z2), (0, .ref v0), (1, .int v1), (2, .int v2), (3, .long v3), (5, .int v5)]) (st' := [.int 0, .ref z2]) rfl ?_
  refine x_pZ e rfl rfl fw_7_16 rfl (fun g15 e => ?_)
  refine wp_p (j := J_Tree_grow) 2 (pc' := 115) (lv' := [(6, .ref z2), (0, .ref v0), (1, .int v1), (2, .int v2), (3, .long v3), (5, .int v5)]) (st' := [.ref v0, .ref v0]) rfl ?_
  refine x_gL e rfl rfl fd_10_7 rfl (fun z16 e => ?_)
  refine wp_p (j := J_Tree_grow) 2 (pc' := 120) (lv' := [(6, .ref z2), (0, .ref v0), (1, .int v1), (2, .int v2), (3, .long v3), (5, .int v5)]) (st' := [.long (z16 + 1), .ref v0]) rfl ?_
  refine x_pL e rfl rfl fw_10_7 rfl (fun g17 e => ?_)
  refine wp_p (j := J_Tree_grow) 2 (pc' := 126) (lv' := [(6, .ref z2), (0, .ref v0), (1, .int v1), (2, .int v2), (3, .long v3), (5, .int v5)]) (st' := [.ref v0, .ref z2]) rfl ?_
  refine x_gL e rfl rfl fd_10_7 rfl (fun z18 e => ?_)
  refine x_pL e rfl rfl fw_7_10 rfl (fun g19 e => ?_)
  refine wp_p (j := J_Tree_grow) 2 (pc' := 134) (lv' := [(6, .ref z2), (0, .ref v0), (1, .int v1), (2, .int v2), (3, .long v3), (5, .int v5)]) (st' := [.ref v0, .ref v0]) rfl ?_
  refine x_gI e rfl rfl fd_10_5 rfl (fun z20 e => ?_)
  refine wp_p (j := J_Tree_grow) 2 (pc' := 139) (lv' := [(6, .ref z2), (0, .ref v0), (1, .int v1), (2, .int v2), (3, .long v3), (5, .int v5)]) (st' := [.int (z20 + 1), .ref v0]) rfl ?_
  refine x_pI e rfl rfl fw_10_5 rfl (fun g21 e => ?_)
  refine wp_p (j := J_Tree_grow) 2 (pc' := 144) (lv' := [(6, .ref z2), (0, .ref v0), (1, .int v1), (2, .int v2), (3, .long v3), (5, .int v5)]) (st' := [.ref v0, .ref v0]) rfl ?_
  refine x_gI e rfl rfl fd_10_6 rfl (fun z22 e => ?_)
  refine wp_p (j := J_Tree_grow) 2 (pc' := 149) (lv' := [(6, .ref z2), (0, .ref v0), (1, .int v1), (2, .int v2), (3, .long v3), (5, .int v5)]) (st' := [.int (z22 + 1), .ref v0]) rfl ?_
  refine x_pI e rfl rfl fw_10_6 rfl (fun g23 e => ?_)
  refine wp_p (j := J_Tree_grow) 2 (pc' := 154) (lv' := [(6, .ref z2), (0, .ref v0), (1, .int v1), (2, .int v2), (3, .long v3), (5, .int v5)]) (st' := [.int (-1), .int v1]) rfl ?_
  refine x_ne e rfl (fun e => ?_) (fun e => ?_)
  · refine wp_p (j := J_Tree_grow) 1 (pc' := 159) (lv' := [(6, .ref z2), (0, .ref v0), (1, .int v1), (2, .int v2), (3, .long v3), (5, .int v5)]) (st' := [.int v5]) rfl ?_
    have e := Option.some.inj e; subst e; exact wp_iret (ty := .int) rfl rfl rfl c
  · refine wp_p (j := J_Tree_grow) 1 (pc' := 161) (lv' := [(6, .ref z2), (0, .ref v0), (1, .int v1), (2, .int v2), (3, .long v3), (5, .int v5)]) (st' := [.ref v0]) rfl ?_
    refine x_gQ e rfl rfl fd_10_0 rfl (fun z24 e => ?_)
    refine wp_p (j := J_Tree_grow) 1 (pc' := 165) (lv' := [(6, .ref z2), (0, .ref v0), (1, .int v1), (2, .int v2), (3, .long v3), (5, .int v5)]) (st' := [.int v1, .ref z24]) rfl ?_
    refine x_aQ e rfl rfl rfl (fun z25 e => ?_)
    refine wp_p (j := J_Tree_grow) 3 (pc' := 172) (lv' := [(7, .ref z25), (6, .ref z2), (0, .ref v0), (1, .int v1), (2, .int v2), (3, .long v3), (5, .int v5)]) (st' := [.ref z25, .ref z2]) rfl ?_
    refine x_gI e rfl rfl fd_7_7 rfl (fun z26 e => ?_)
    refine wp_p (j := J_Tree_grow) 2 (pc' := 177) (lv' := [(7, .ref z25), (6, .ref z2), (0, .ref v0), (1, .int v1), (2, .int v2), (3, .long v3), (5, .int v5)]) (st' := [.int (z26 + 1), .ref z2]) rfl ?_
    refine x_pI e rfl rfl fw_7_7 rfl (fun g27 e => ?_)
    refine wp_p (j := J_Tree_grow) 1 (pc' := 182) (lv' := [(7, .ref z25), (6, .ref z2), (0, .ref v0), (1, .int v1), (2, .int v2), (3, .long v3), (5, .int v5)]) (st' := [.ref z25]) rfl ?_
    refine x_gI e rfl rfl fd_7_4 rfl (fun z28 e => ?_)
    refine wp_p (j := J_Tree_grow) 1 (pc' := 186) (lv' := [(7, .ref z25), (6, .ref z2), (0, .ref v0), (1, .int v1), (2, .int v2), (3, .long v3), (5, .int v5)]) (st' := [.int (-1), .int z28]) rfl ?_
    refine x_ne e rfl (fun e => ?_) (fun e => ?_)
    · refine wp_p (j := J_Tree_grow) 2 (pc' := 193) (lv' := [(7, .ref z25), (6, .ref z2), (0, .ref v0), (1, .int v1), (2, .int v2), (3, .long v3), (5, .int v5)]) (st' := [.int v5, .ref z25]) rfl ?_
      refine x_pI e rfl rfl fw_7_3 rfl (fun g29 e => ?_)
      refine wp_p (j := J_Tree_grow) 1 (pc' := 214) (lv' := [(7, .ref z25), (6, .ref z2), (0, .ref v0), (1, .int v1), (2, .int v2), (3, .long v3), (5, .int v5)]) (st' := []) rfl ?_
      exact wp_lv (lv' := [(5, .int v5), (7, .ref z25)]) rfl ⟨rfl, rfl, trivial⟩ (x_Tree_grow_214 e c)
    · refine wp_p (j := J_Tree_grow) 1 (pc' := 200) (lv' := [(7, .ref z25), (6, .ref z2), (0, .ref v0), (1, .int v1), (2, .int v2), (3, .long v3), (5, .int v5)]) (st' := [.ref v0]) rfl ?_
      refine x_gQ e rfl rfl fd_10_0 rfl (fun z30 e => ?_)
      refine wp_p (j := J_Tree_grow) 1 (pc' := 205) (lv' := [(7, .ref z25), (6, .ref z2), (0, .ref v0), (1, .int v1), (2, .int v2), (3, .long v3), (5, .int v5)]) (st' := [.ref z25, .ref z30]) rfl ?_
      refine x_gI e rfl rfl fd_7_4 rfl (fun z31 e => ?_)
      refine x_aQ e rfl rfl rfl (fun z32 e => ?_)
      refine wp_p (j := J_Tree_grow) 1 (pc' := 211) (lv' := [(7, .ref z25), (6, .ref z2), (0, .ref v0), (1, .int v1), (2, .int v2), (3, .long v3), (5, .int v5)]) (st' := [.int v5, .ref z32]) rfl ?_
      refine x_pI e rfl rfl fw_7_5 rfl (fun g33 e => ?_)
      exact wp_lv (lv' := [(5, .int v5), (7, .ref z25)]) rfl ⟨rfl, rfl, trivial⟩ (x_Tree_grow_214 e c)
noncomputable def M_Tree_grow (v0 : Nat) (v1 : Int32) (v2 : Int32) (v3 : Int64) (g : g_S) : Option (Int32 × g_S) :=
  (L_Tree_grow_3 v0 v1 v2 v3 0 g).bind <| fun z3 =>
  k_Tree_grow_30 v0 v1 v2 v3 z3 g
set_option maxRecDepth 20000 in
theorem d_Tree_grow {L : Nat} {xs : Nat → Int32} {Q : Option Value → ab_H → Prop} {v0 : Nat} {v1 : Int32} {v2 : Int32} {v3 : Int64} {g : g_S} {out : Int32 × g_S} (e : M_Tree_grow v0 v1 v2 v3 g = some out) (c : Q (some (.int out.1)) (hp out.2)) : mw (ab_ext L xs) J_Tree_grow [.ref v0, .int v1, .int v2, .long v3] (hp g) Q := by
  unfold M_Tree_grow at e
  refine wp_p (j := J_Tree_grow) 2 (pc' := 3) (lv' := [(5, .int 0), (0, .ref v0), (1, .int v1), (2, .int v2), (3, .long v3)]) (st' := []) rfl ?_
  obtain ⟨z3, h2, e⟩ := bd e
  refine wp_lv (lv' := [(0, .ref v0), (1, .int v1), (2, .int v2), (3, .long v3), (5, .int 0)]) rfl ⟨rfl, rfl, rfl, rfl, rfl, trivial⟩ ?_
  refine l_Tree_grow_3 h2 ?_
  show wp (ab_ext L xs) J_Tree_grow 30 [(0, .ref v0), (1, .int v1), (2, .int v2), (3, .long v3), (5, .int z3)] [] (hp g) Q
  exact wp_lv (lv' := [(0, .ref v0), (1, .int v1), (2, .int v2), (3, .long v3), (5, .int z3)]) rfl ⟨rfl, rfl, rfl, rfl, rfl, trivial⟩ (x_Tree_grow_30 e c)
def cL_Tree_clear_2 (L : Nat) (xs : Nat → Int32) (Q : Option Value → ab_H → Prop) (v0 : Nat) (out : (Int32 × g_S) ⊕ (g_S)) : Prop := match out with
  | .inl s => wp (ab_ext L xs) J_Tree_clear 2 [(0, .ref v0), (1, .int s.1)] [] (hp s.2) Q
  | .inr s => wp (ab_ext L xs) J_Tree_clear 24 [(0, .ref v0)] [] (hp s) Q
noncomputable def b_Tree_clear_2 (v0 : Nat) (v1 : Int32) (g : g_S) : Option ((Int32 × g_S) ⊕ (g_S)) :=
  if v1 < 120 then
    (rQ g 110 v0 0).bind fun z1 =>
    (aQ g 5 z1 v1).bind fun z2 =>
    (wI g 107 z2 0 (-1)).bind fun g3 =>
    some (.inl (v1 + 1, g3))
  else
    some (.inr g)
set_option maxRecDepth 20000 in
theorem y_Tree_clear_2 {L : Nat} {xs : Nat → Int32} {Q : Option Value → ab_H → Prop} {v0 : Nat} {v1 : Int32} {g : g_S} {out : (Int32 × g_S) ⊕ (g_S)} (e : b_Tree_clear_2 v0 v1 g = some out) (c : cL_Tree_clear_2 L xs Q v0 out) : wp (ab_ext L xs) J_Tree_clear 2 [(0, .ref v0), (1, .int v1)] [] (hp g) Q := by
  unfold b_Tree_clear_2 at e
  refine wp_p (j := J_Tree_clear) 2 (pc' := 5) (lv' := [(0, .ref v0), (1, .int v1)]) (st' := [.int 120, .int v1]) rfl ?_
  refine x_ge e rfl (fun e => ?_) (fun e => ?_)
  · refine wp_p (j := J_Tree_clear) 1 (pc' := 9) (lv' := [(0, .ref v0), (1, .int v1)]) (st' := [.ref v0]) rfl ?_
    refine x_gQ e rfl rfl fd_10_0 rfl (fun z1 e => ?_)
    refine wp_p (j := J_Tree_clear) 1 (pc' := 13) (lv' := [(0, .ref v0), (1, .int v1)]) (st' := [.int v1, .ref z1]) rfl ?_
    refine x_aQ e rfl rfl rfl (fun z2 e => ?_)
    refine wp_p (j := J_Tree_clear) 1 (pc' := 15) (lv' := [(0, .ref v0), (1, .int v1)]) (st' := [.int (-1), .ref z2]) rfl ?_
    refine x_pI e rfl rfl fw_7_0 rfl (fun g3 e => ?_)
    refine wp_p (j := J_Tree_clear) 2 (pc' := 2) (lv' := [(1, .int (v1 + 1)), (0, .ref v0)]) (st' := []) rfl ?_
    have e := Option.some.inj e; subst e; exact wp_lv (lv' := [(0, .ref v0), (1, .int (v1 + 1))]) rfl ⟨rfl, rfl, trivial⟩ c
  · have e := Option.some.inj e; subst e; exact wp_lv (lv' := [(0, .ref v0)]) rfl ⟨rfl, trivial⟩ c
noncomputable def L_Tree_clear_2 (v0 : Nat) (v1 : Int32) (g : g_S) : Option (g_S) := it (fun s : Int32 × g_S => b_Tree_clear_2 v0 s.1 s.2) (v1, g)
theorem l_Tree_clear_2 {L : Nat} {xs : Nat → Int32} {Q : Option Value → ab_H → Prop} {v0 : Nat} {v1 : Int32} {g : g_S} {r : g_S} (e : L_Tree_clear_2 v0 v1 g = some r) (c : cL_Tree_clear_2 L xs Q v0 (.inr r)) : wp (ab_ext L xs) J_Tree_clear 2 [(0, .ref v0), (1, .int v1)] [] (hp g) Q :=
  it_wp (P := fun s : Int32 × g_S => wp (ab_ext L xs) J_Tree_clear 2 [(0, .ref v0), (1, .int s.1)] [] (hp s.2) Q) (E := fun r => cL_Tree_clear_2 L xs Q v0 (.inr r)) (fun s out e c => y_Tree_clear_2 e (by cases out <;> exact c)) e c
theorem L_Tree_clear_2_eq (v0 : Nat) (v1 : Int32) (g : g_S) : L_Tree_clear_2 v0 v1 g = itc (b_Tree_clear_2 v0 v1 g) (fun s => L_Tree_clear_2 v0 s.1 s.2) := it_eq2 (fun s : Int32 × g_S => b_Tree_clear_2 v0 s.1 s.2) (v1, g)
noncomputable def M_Tree_clear (v0 : Nat) (g : g_S) : Option g_S :=
  (L_Tree_clear_2 v0 0 g).bind <| fun g3 =>
  (wI g3 110 v0 5 0).bind fun g4 =>
  (rQ g4 110 v0 1).bind fun z5 =>
  (aL g4 z5 0).bind fun z6 =>
  c2 (vc g4 110 v0 (M_Tree_grow v0 (-1) 0 z6 g4)) fun z7 g8 =>
  some g8
set_option maxRecDepth 20000 in
theorem d_Tree_clear {L : Nat} {xs : Nat → Int32} {Q : Option Value → ab_H → Prop} {v0 : Nat} {g : g_S} {out : g_S} (e : M_Tree_clear v0 g = some out) (c : Q none (hp out)) : mw (ab_ext L xs) J_Tree_clear [.ref v0] (hp g) Q := by
  unfold M_Tree_clear at e
  refine wp_p (j := J_Tree_clear) 2 (pc' := 2) (lv' := [(1, .int 0), (0, .ref v0)]) (st' := []) rfl ?_
  obtain ⟨g3, h2, e⟩ := bd e
  refine wp_lv (lv' := [(0, .ref v0), (1, .int 0)]) rfl ⟨rfl, rfl, trivial⟩ ?_
  refine l_Tree_clear_2 h2 ?_
  show wp (ab_ext L xs) J_Tree_clear 24 [(0, .ref v0)] [] (hp g3) Q
  refine wp_p (j := J_Tree_clear) 2 (pc' := 26) (lv' := [(0, .ref v0)]) (st' := [.int 0, .ref v0]) rfl ?_
  refine x_pI e rfl rfl fw_10_5 rfl (fun g4 e => ?_)
  refine wp_p (j := J_Tree_clear) 4 (pc' := 33) (lv' := [(0, .ref v0)]) (st' := [.ref v0, .int 0, .int (-1), .ref v0]) rfl ?_
  refine x_gQ e rfl rfl fd_10_1 rfl (fun z5 e => ?_)
  refine wp_p (j := J_Tree_clear) 1 (pc' := 37) (lv' := [(0, .ref v0)]) (st' := [.int 0, .ref z5, .int 0, .int (-1), .ref v0]) rfl ?_
  refine x_aL e rfl rfl (fun z6 e => ?_)
  refine x_cv2 (As := [.int (-1), .int 0, .long z6]) (rest := []) Value.int e rfl rfl rfl rfl rfl rfl (fun h => d_Tree_grow h ⟨rfl, rfl⟩) (fun z7 g8 e => ?_)
  refine wp_p (j := J_Tree_clear) 1 (pc' := 42) (lv' := [(0, .ref v0)]) (st' := []) rfl ?_
  have e := Option.some.inj e; subst e; exact wp_vret rfl rfl c
noncomputable def M_H_init (v0 : Nat) (g : g_S) : Option g_S :=
  c2 (nO g 104) fun z1 g2 =>
  (M_Bytes_init z1 2000 g2).bind fun g3 =>
  (wR g3 111 v0 0 (some z1)).bind fun g4 =>
  c2 (nO g4 104) fun z5 g6 =>
  (M_Bytes_init z5 8000 g6).bind fun g7 =>
  (wR g7 111 v0 1 (some z5)).bind fun g8 =>
  c2 (nO g8 110) fun z9 g10 =>
  (M_Tree_init z9 g10).bind fun g11 =>
  (wR g11 111 v0 2 (some z9)).bind fun g12 =>
  c2 (nO g12 106) fun z13 g14 =>
  (M_Net_init z13 g14).bind fun g15 =>
  (wR g15 111 v0 3 (some z13)).bind fun g16 =>
  c2 (nO g16 108) fun z17 g18 =>
  (rQ g18 111 v0 2).bind fun z19 =>
  (M_Reader_init z17 z19 g18).bind fun g20 =>
  (wR g20 111 v0 4 (some z17)).bind fun g21 =>
  c2 (nO g21 109) fun z22 g23 =>
  (rQ g23 111 v0 2).bind fun z24 =>
  (M_Sheet_init z22 z24 g23).bind fun g25 =>
  (wR g25 111 v0 5 (some z22)).bind fun g26 =>
  c2 (nO g26 105) fun z27 g28 =>
  (rQ g28 111 v0 2).bind fun z29 =>
  (rQ g28 111 v0 5).bind fun z30 =>
  (M_Layout_init z27 z29 z30 g28).bind fun g31 =>
  (wR g31 111 v0 6 (some z27)).bind fun g32 =>
  c2 (nO g32 100) fun z33 g34 =>
  (rQ g34 111 v0 2).bind fun z35 =>
  (rQ g34 111 v0 3).bind fun z36 =>
  (rQ g34 111 v0 4).bind fun z37 =>
  (M_Acts_init z33 z35 z36 z37 g34).bind fun g38 =>
  (wR g38 111 v0 7 (some z33)).bind fun g39 =>
  c2 (nA g39 0 120) fun z40 g41 =>
  (wR g41 111 v0 8 (some z40)).bind fun g42 =>
  (rQ g42 111 v0 2).bind fun z43 =>
  (vc g42 110 z43 (M_Tree_clear z43 g42)).bind fun g44 =>
  some g44
set_option maxRecDepth 20000 in
theorem d_H_init {L : Nat} {xs : Nat → Int32} {Q : Option Value → ab_H → Prop} {v0 : Nat} {g : g_S} {out : g_S} (e : M_H_init v0 g = some out) (c : Q none (hp out)) : mw (ab_ext L xs) J_H_init [.ref v0] (hp g) Q := by
  unfold M_H_init at e
  refine wp_p (j := J_H_init) 1 (pc' := 1) (lv' := [(0, .ref v0)]) (st' := [.ref v0]) rfl ?_
  refine wp_obj rfl (Nat.le_of_ble_eq_true rfl) ?_
  refine wp_p (j := J_H_init) 1 (pc' := 5) (lv' := [(0, .ref v0)]) (st' := [.ref v0]) rfl ?_
  refine x_nO e rfl rfl rfl (fun z1 g2 e => ?_)
  refine wp_p (j := J_H_init) 2 (pc' := 12) (lv' := [(0, .ref v0)]) (st' := [.int 2000, .ref z1, .ref z1, .ref v0]) rfl ?_
  refine x_ci0 (As := [.int 2000]) (rest := [.ref z1, .ref v0]) e rfl rfl rfl rfl rfl (fun h => d_Bytes_init h ⟨rfl, rfl⟩) (fun g3 e => ?_)
  refine x_pR (r := (some z1)) e rfl rfl fd_11_0 rfl (fun g4 e => ?_)
  refine wp_p (j := J_H_init) 1 (pc' := 19) (lv' := [(0, .ref v0)]) (st' := [.ref v0]) rfl ?_
  refine x_nO e rfl rfl rfl (fun z5 g6 e => ?_)
  refine wp_p (j := J_H_init) 2 (pc' := 26) (lv' := [(0, .ref v0)]) (st' := [.int 8000, .ref z5, .ref z5, .ref v0]) rfl ?_
  refine x_ci0 (As := [.int 8000]) (rest := [.ref z5, .ref v0]) e rfl rfl rfl rfl rfl (fun h => d_Bytes_init h ⟨rfl, rfl⟩) (fun g7 e => ?_)
  refine x_pR (r := (some z5)) e rfl rfl fd_11_1 rfl (fun g8 e => ?_)
  refine wp_p (j := J_H_init) 1 (pc' := 33) (lv' := [(0, .ref v0)]) (st' := [.ref v0]) rfl ?_
  refine x_nO e rfl rfl rfl (fun z9 g10 e => ?_)
  refine wp_p (j := J_H_init) 1 (pc' := 37) (lv' := [(0, .ref v0)]) (st' := [.ref z9, .ref z9, .ref v0]) rfl ?_
  refine x_ci0 (As := []) (rest := [.ref z9, .ref v0]) e rfl rfl rfl rfl rfl (fun h => d_Tree_init h ⟨rfl, rfl⟩) (fun g11 e => ?_)
  refine x_pR (r := (some z9)) e rfl rfl fd_11_2 rfl (fun g12 e => ?_)
  refine wp_p (j := J_H_init) 1 (pc' := 44) (lv' := [(0, .ref v0)]) (st' := [.ref v0]) rfl ?_
  refine x_nO e rfl rfl rfl (fun z13 g14 e => ?_)
  refine wp_p (j := J_H_init) 1 (pc' := 48) (lv' := [(0, .ref v0)]) (st' := [.ref z13, .ref z13, .ref v0]) rfl ?_
  refine x_ci0 (As := []) (rest := [.ref z13, .ref v0]) e rfl rfl rfl rfl rfl (fun h => d_Net_init h ⟨rfl, rfl⟩) (fun g15 e => ?_)
  refine x_pR (r := (some z13)) e rfl rfl fd_11_3 rfl (fun g16 e => ?_)
  refine wp_p (j := J_H_init) 1 (pc' := 55) (lv' := [(0, .ref v0)]) (st' := [.ref v0]) rfl ?_
  refine x_nO e rfl rfl rfl (fun z17 g18 e => ?_)
  refine wp_p (j := J_H_init) 2 (pc' := 60) (lv' := [(0, .ref v0)]) (st' := [.ref v0, .ref z17, .ref z17, .ref v0]) rfl ?_
  refine x_gQ e rfl rfl fd_11_2 rfl (fun z19 e => ?_)
  refine x_ci0 (As := [.ref z19]) (rest := [.ref z17, .ref v0]) e rfl rfl rfl rfl rfl (fun h => d_Reader_init h ⟨rfl, rfl⟩) (fun g20 e => ?_)
  refine x_pR (r := (some z17)) e rfl rfl fd_11_4 rfl (fun g21 e => ?_)
  refine wp_p (j := J_H_init) 1 (pc' := 70) (lv' := [(0, .ref v0)]) (st' := [.ref v0]) rfl ?_
  refine x_nO e rfl rfl rfl (fun z22 g23 e => ?_)
  refine wp_p (j := J_H_init) 2 (pc' := 75) (lv' := [(0, .ref v0)]) (st' := [.ref v0, .ref z22, .ref z22, .ref v0]) rfl ?_
  refine x_gQ e rfl rfl fd_11_2 rfl (fun z24 e => ?_)
  refine x_ci0 (As := [.ref z24]) (rest := [.ref z22, .ref v0]) e rfl rfl rfl rfl rfl (fun h => d_Sheet_init h ⟨rfl, rfl⟩) (fun g25 e => ?_)
  refine x_pR (r := (some z22)) e rfl rfl fd_11_5 rfl (fun g26 e => ?_)
  refine wp_p (j := J_H_init) 1 (pc' := 85) (lv' := [(0, .ref v0)]) (st' := [.ref v0]) rfl ?_
  refine x_nO e rfl rfl rfl (fun z27 g28 e => ?_)
  refine wp_p (j := J_H_init) 2 (pc' := 90) (lv' := [(0, .ref v0)]) (st' := [.ref v0, .ref z27, .ref z27, .ref v0]) rfl ?_
  refine x_gQ e rfl rfl fd_11_2 rfl (fun z29 e => ?_)
  refine wp_p (j := J_H_init) 1 (pc' := 94) (lv' := [(0, .ref v0)]) (st' := [.ref v0, .ref z29, .ref z27, .ref z27, .ref v0]) rfl ?_
  refine x_gQ e rfl rfl fd_11_5 rfl (fun z30 e => ?_)
  refine x_ci0 (As := [.ref z29, .ref z30]) (rest := [.ref z27, .ref v0]) e rfl rfl rfl rfl rfl (fun h => d_Layout_init h ⟨rfl, rfl⟩) (fun g31 e => ?_)
  refine x_pR (r := (some z27)) e rfl rfl fd_11_6 rfl (fun g32 e => ?_)
  refine wp_p (j := J_H_init) 1 (pc' := 104) (lv' := [(0, .ref v0)]) (st' := [.ref v0]) rfl ?_
  refine x_nO e rfl rfl rfl (fun z33 g34 e => ?_)
  refine wp_p (j := J_H_init) 2 (pc' := 109) (lv' := [(0, .ref v0)]) (st' := [.ref v0, .ref z33, .ref z33, .ref v0]) rfl ?_
  refine x_gQ e rfl rfl fd_11_2 rfl (fun z35 e => ?_)
  refine wp_p (j := J_H_init) 1 (pc' := 113) (lv' := [(0, .ref v0)]) (st' := [.ref v0, .ref z35, .ref z33, .ref z33, .ref v0]) rfl ?_
  refine x_gQ e rfl rfl fd_11_3 rfl (fun z36 e => ?_)
  refine wp_p (j := J_H_init) 1 (pc' := 117) (lv' := [(0, .ref v0)]) (st' := [.ref v0, .ref z36, .ref z35, .ref z33, .ref z33, .ref v0]) rfl ?_
  refine x_gQ e rfl rfl fd_11_4 rfl (fun z37 e => ?_)
  refine x_ci0 (As := [.ref z35, .ref z36, .ref z37]) (rest := [.ref z33, .ref v0]) e rfl rfl rfl rfl rfl (fun h => d_Acts_init h ⟨rfl, rfl⟩) (fun g38 e => ?_)
  refine x_pR (r := (some z33)) e rfl rfl fd_11_7 rfl (fun g39 e => ?_)
  refine wp_p (j := J_H_init) 2 (pc' := 129) (lv' := [(0, .ref v0)]) (st' := [.int 120, .ref v0]) rfl ?_
  refine x_nA e rfl rfl rfl (fun z40 g41 e => ?_)
  refine x_pR (r := (some z40)) e rfl rfl fd_11_8 rfl (fun g42 e => ?_)
  refine wp_p (j := J_H_init) 1 (pc' := 135) (lv' := [(0, .ref v0)]) (st' := [.ref v0]) rfl ?_
  refine x_gQ e rfl rfl fd_11_2 rfl (fun z43 e => ?_)
  refine x_cv0 (As := []) (rest := []) e rfl rfl rfl rfl rfl rfl (fun h => d_Tree_clear h ⟨rfl, rfl⟩) (fun g44 e => ?_)
  have e := Option.some.inj e; subst e; exact wp_vret rfl rfl c
def cL_H_addFour_3 (L : Nat) (xs : Nat → Int32) (Q : Option Value → ab_H → Prop) (v0 : Nat) (v1 : Int32) (out : (Int32 × g_S) ⊕ (g_S)) : Prop := match out with
  | .inl s => wp (ab_ext L xs) J_H_addFour 3 [(0, .ref v0), (1, .int v1), (2, .int s.1)] [] (hp s.2) Q
  | .inr s => wp (ab_ext L xs) J_H_addFour 23 [] [] (hp s) Q
noncomputable def b_H_addFour_3 (v0 : Nat) (v1 : Int32) (v2 : Int32) (g : g_S) : Option ((Int32 × g_S) ⊕ (g_S)) :=
  if v2 < 0 then
    some (.inr g)
  else
    (rQ g 111 v0 0).bind fun z1 =>
    (vc g 104 z1 (M_Bytes_add z1 (v1 >>> (v2 &&& 31)) g)).bind fun g2 =>
    some (.inl (v2 + (-8), g2))
set_option maxRecDepth 20000 in
theorem y_H_addFour_3 {L : Nat} {xs : Nat → Int32} {Q : Option Value → ab_H → Prop} {v0 : Nat} {v1 : Int32} {v2 : Int32} {g : g_S} {out : (Int32 × g_S) ⊕ (g_S)} (e : b_H_addFour_3 v0 v1 v2 g = some out) (c : cL_H_addFour_3 L xs Q v0 v1 out) : wp (ab_ext L xs) J_H_addFour 3 [(0, .ref v0), (1, .int v1), (2, .int v2)] [] (hp g) Q := by
  unfold b_H_addFour_3 at e
  refine wp_p (j := J_H_addFour) 1 (pc' := 4) (lv' := [(0, .ref v0), (1, .int v1), (2, .int v2)]) (st' := [.int v2]) rfl ?_
  refine z_lt e rfl (fun e => ?_) (fun e => ?_)
  · have e := Option.some.inj e; subst e; exact wp_lv (lv' := []) rfl trivial c
  · refine wp_p (j := J_H_addFour) 1 (pc' := 8) (lv' := [(0, .ref v0), (1, .int v1), (2, .int v2)]) (st' := [.ref v0]) rfl ?_
    refine x_gQ e rfl rfl fd_11_0 rfl (fun z1 e => ?_)
    refine wp_p (j := J_H_addFour) 3 (pc' := 14) (lv' := [(0, .ref v0), (1, .int v1), (2, .int v2)]) (st' := [.int (v1 >>> (v2 &&& 31)), .ref z1]) rfl ?_
    refine x_cv0 (As := [.int (v1 >>> (v2 &&& 31))]) (rest := []) e rfl rfl rfl rfl rfl rfl (fun h => d_Bytes_add h ⟨rfl, rfl⟩) (fun g2 e => ?_)
    refine wp_p (j := J_H_addFour) 2 (pc' := 3) (lv' := [(2, .int (v2 + (-8))), (0, .ref v0), (1, .int v1)]) (st' := []) rfl ?_
    have e := Option.some.inj e; subst e; exact wp_lv (lv' := [(0, .ref v0), (1, .int v1), (2, .int (v2 + (-8)))]) rfl ⟨rfl, rfl, rfl, trivial⟩ c
noncomputable def L_H_addFour_3 (v0 : Nat) (v1 : Int32) (v2 : Int32) (g : g_S) : Option (g_S) := it (fun s : Int32 × g_S => b_H_addFour_3 v0 v1 s.1 s.2) (v2, g)
theorem l_H_addFour_3 {L : Nat} {xs : Nat → Int32} {Q : Option Value → ab_H → Prop} {v0 : Nat} {v1 : Int32} {v2 : Int32} {g : g_S} {r : g_S} (e : L_H_addFour_3 v0 v1 v2 g = some r) (c : cL_H_addFour_3 L xs Q v0 v1 (.inr r)) : wp (ab_ext L xs) J_H_addFour 3 [(0, .ref v0), (1, .int v1), (2, .int v2)] [] (hp g) Q :=
  it_wp (P := fun s : Int32 × g_S => wp (ab_ext L xs) J_H_addFour 3 [(0, .ref v0), (1, .int v1), (2, .int s.1)] [] (hp s.2) Q) (E := fun r => cL_H_addFour_3 L xs Q v0 v1 (.inr r)) (fun s out e c => y_H_addFour_3 e (by cases out <;> exact c)) e c
theorem L_H_addFour_3_eq (v0 : Nat) (v1 : Int32) (v2 : Int32) (g : g_S) : L_H_addFour_3 v0 v1 v2 g = itc (b_H_addFour_3 v0 v1 v2 g) (fun s => L_H_addFour_3 v0 v1 s.1 s.2) := it_eq2 (fun s : Int32 × g_S => b_H_addFour_3 v0 v1 s.1 s.2) (v2, g)
noncomputable def M_H_addFour (v0 : Nat) (v1 : Int32) (g : g_S) : Option g_S :=
  (L_H_addFour_3 v0 v1 24 g).bind <| fun g3 =>
  some g3
set_option maxRecDepth 20000 in
theorem d_H_addFour {L : Nat} {xs : Nat → Int32} {Q : Option Value → ab_H → Prop} {v0 : Nat} {v1 : Int32} {g : g_S} {out : g_S} (e : M_H_addFour v0 v1 g = some out) (c : Q none (hp out)) : mw (ab_ext L xs) J_H_addFour [.ref v0, .int v1] (hp g) Q := by
  unfold M_H_addFour at e
  refine wp_p (j := J_H_addFour) 2 (pc' := 3) (lv' := [(2, .int 24), (0, .ref v0), (1, .int v1)]) (st' := []) rfl ?_
  obtain ⟨g3, h2, e⟩ := bd e
  refine wp_lv (lv' := [(0, .ref v0), (1, .int v1), (2, .int 24)]) rfl ⟨rfl, rfl, rfl, trivial⟩ ?_
  refine l_H_addFour_3 h2 ?_
  show wp (ab_ext L xs) J_H_addFour 23 [] [] (hp g3) Q
  have e := Option.some.inj e; subst e; exact wp_vret rfl rfl c
noncomputable def M_H_feed (v0 : Nat) (v1 : Int32) (v2 : Int32) (v3 : Int32) (v4 : Int32) (v5 : Int32) (g : g_S) : Option (Int32 × g_S) :=
  (rQ g 111 v0 0).bind fun z1 =>
  (rI g 104 z1 2).bind fun z2 =>
  if 2000 < (z2 + 20) then
    some ((-1), g)
  else
    (vc g 111 v0 (M_H_addFour v0 v1 g)).bind fun g3 =>
    (vc g3 111 v0 (M_H_addFour v0 v2 g3)).bind fun g4 =>
    (vc g4 111 v0 (M_H_addFour v0 v3 g4)).bind fun g5 =>
    (vc g5 111 v0 (M_H_addFour v0 v4 g5)).bind fun g6 =>
    (vc g6 111 v0 (M_H_addFour v0 v5 g6)).bind fun g7 =>
    (rQ g7 111 v0 0).bind fun z8 =>
    (rI g7 104 z8 2).bind fun z9 =>
    some (z9, g7)
set_option maxRecDepth 20000 in
theorem d_H_feed {L : Nat} {xs : Nat → Int32} {Q : Option Value → ab_H → Prop} {v0 : Nat} {v1 : Int32} {v2 : Int32} {v3 : Int32} {v4 : Int32} {v5 : Int32} {g : g_S} {out : Int32 × g_S} (e : M_H_feed v0 v1 v2 v3 v4 v5 g = some out) (c : Q (some (.int out.1)) (hp out.2)) : mw (ab_ext L xs) J_H_feed [.ref v0, .int v1, .int v2, .int v3, .int v4, .int v5] (hp g) Q := by
  unfold M_H_feed at e
  refine wp_p (j := J_H_feed) 1 (pc' := 1) (lv' := [(0, .ref v0), (1, .int v1), (2, .int v2), (3, .int v3), (4, .int v4), (5, .int v5)]) (st' := [.ref v0]) rfl ?_
  refine x_gQ e rfl rfl fd_11_0 rfl (fun z1 e => ?_)
  refine x_gI e rfl rfl fd_4_2 rfl (fun z2 e => ?_)
  refine wp_p (j := J_H_feed) 3 (pc' := 13) (lv' := [(0, .ref v0), (1, .int v1), (2, .int v2), (3, .int v3), (4, .int v4), (5, .int v5)]) (st' := [.int 2000, .int (z2 + 20)]) rfl ?_
  refine x_le e rfl (fun e => ?_) (fun e => ?_)
  · refine wp_p (j := J_H_feed) 1 (pc' := 17) (lv' := [(0, .ref v0), (1, .int v1), (2, .int v2), (3, .int v3), (4, .int v4), (5, .int v5)]) (st' := [.int (-1)]) rfl ?_
    have e := Option.some.inj e; subst e; exact wp_iret (ty := .int) rfl rfl rfl c
  · refine wp_p (j := J_H_feed) 2 (pc' := 20) (lv' := [(0, .ref v0), (1, .int v1), (2, .int v2), (3, .int v3), (4, .int v4), (5, .int v5)]) (st' := [.int v1, .ref v0]) rfl ?_
    refine x_cv0 (As := [.int v1]) (rest := []) e rfl rfl rfl rfl rfl rfl (fun h => d_H_addFour h ⟨rfl, rfl⟩) (fun g3 e => ?_)
    refine wp_p (j := J_H_feed) 2 (pc' := 25) (lv' := [(0, .ref v0), (1, .int v1), (2, .int v2), (3, .int v3), (4, .int v4), (5, .int v5)]) (st' := [.int v2, .ref v0]) rfl ?_
    refine x_cv0 (As := [.int v2]) (rest := []) e rfl rfl rfl rfl rfl rfl (fun h => d_H_addFour h ⟨rfl, rfl⟩) (fun g4 e => ?_)
    refine wp_p (j := J_H_feed) 2 (pc' := 30) (lv' := [(0, .ref v0), (1, .int v1), (2, .int v2), (3, .int v3), (4, .int v4), (5, .int v5)]) (st' := [.int v3, .ref v0]) rfl ?_
    refine x_cv0 (As := [.int v3]) (rest := []) e rfl rfl rfl rfl rfl rfl (fun h => d_H_addFour h ⟨rfl, rfl⟩) (fun g5 e => ?_)
    refine wp_p (j := J_H_feed) 2 (pc' := 36) (lv' := [(0, .ref v0), (1, .int v1), (2, .int v2), (3, .int v3), (4, .int v4), (5, .int v5)]) (st' := [.int v4, .ref v0]) rfl ?_
    refine x_cv0 (As := [.int v4]) (rest := []) e rfl rfl rfl rfl rfl rfl (fun h => d_H_addFour h ⟨rfl, rfl⟩) (fun g6 e => ?_)
    refine wp_p (j := J_H_feed) 2 (pc' := 42) (lv' := [(0, .ref v0), (1, .int v1), (2, .int v2), (3, .int v3), (4, .int v4), (5, .int v5)]) (st' := [.int v5, .ref v0]) rfl ?_
    refine x_cv0 (As := [.int v5]) (rest := []) e rfl rfl rfl rfl rfl rfl (fun h => d_H_addFour h ⟨rfl, rfl⟩) (fun g7 e => ?_)
    refine wp_p (j := J_H_feed) 1 (pc' := 46) (lv' := [(0, .ref v0), (1, .int v1), (2, .int v2), (3, .int v3), (4, .int v4), (5, .int v5)]) (st' := [.ref v0]) rfl ?_
    refine x_gQ e rfl rfl fd_11_0 rfl (fun z8 e => ?_)
    refine x_gI e rfl rfl fd_4_2 rfl (fun z9 e => ?_)
    have e := Option.some.inj e; subst e; exact wp_iret (ty := .int) rfl rfl rfl c
noncomputable def M_H_end (v0 : Nat) (v1 : Int32) (g : g_S) : Option (Int32 × g_S) :=
  if v1 < 0 then
    some ((-1), g)
  else
    (rQ g 111 v0 0).bind fun z1 =>
    (rI g 104 z1 2).bind fun z2 =>
    if z2 < v1 then
      some ((-1), g)
    else
      (rQ g 111 v0 0).bind fun z3 =>
      (wI g 104 z3 2 v1).bind fun g4 =>
      some (v1, g4)
set_option maxRecDepth 20000 in
theorem d_H_end {L : Nat} {xs : Nat → Int32} {Q : Option Value → ab_H → Prop} {v0 : Nat} {v1 : Int32} {g : g_S} {out : Int32 × g_S} (e : M_H_end v0 v1 g = some out) (c : Q (some (.int out.1)) (hp out.2)) : mw (ab_ext L xs) J_H_end [.ref v0, .int v1] (hp g) Q := by
  unfold M_H_end at e
  refine wp_p (j := J_H_end) 1 (pc' := 1) (lv' := [(0, .ref v0), (1, .int v1)]) (st' := [.int v1]) rfl ?_
  refine z_lt e rfl (fun e => ?_) (fun e => ?_)
  · refine wp_p (j := J_H_end) 1 (pc' := 16) (lv' := [(0, .ref v0), (1, .int v1)]) (st' := [.int (-1)]) rfl ?_
    have e := Option.some.inj e; subst e; exact wp_iret (ty := .int) rfl rfl rfl c
  · refine wp_p (j := J_H_end) 2 (pc' := 6) (lv' := [(0, .ref v0), (1, .int v1)]) (st' := [.ref v0, .int v1]) rfl ?_
    refine x_gQ e rfl rfl fd_11_0 rfl (fun z1 e => ?_)
    refine x_gI e rfl rfl fd_4_2 rfl (fun z2 e => ?_)
    refine x_le e rfl (fun e => ?_) (fun e => ?_)
    · refine wp_p (j := J_H_end) 1 (pc' := 16) (lv' := [(0, .ref v0), (1, .int v1)]) (st' := [.int (-1)]) rfl ?_
      have e := Option.some.inj e; subst e; exact wp_iret (ty := .int) rfl rfl rfl c
    · refine wp_p (j := J_H_end) 1 (pc' := 18) (lv' := [(0, .ref v0), (1, .int v1)]) (st' := [.ref v0]) rfl ?_
      refine x_gQ e rfl rfl fd_11_0 rfl (fun z3 e => ?_)
      refine wp_p (j := J_H_end) 1 (pc' := 22) (lv' := [(0, .ref v0), (1, .int v1)]) (st' := [.int v1, .ref z3]) rfl ?_
      refine x_pI e rfl rfl fw_4_2 rfl (fun g4 e => ?_)
      refine wp_p (j := J_H_end) 1 (pc' := 26) (lv' := [(0, .ref v0), (1, .int v1)]) (st' := [.int v1]) rfl ?_
      have e := Option.some.inj e; subst e; exact wp_iret (ty := .int) rfl rfl rfl c
noncomputable def M_H_out (v0 : Nat) (v1 : Int32) (g : g_S) : Option Int32 :=
  if v1 < 0 then
    some (-1)
  else
    (rQ g 111 v0 1).bind fun z1 =>
    (rI g 104 z1 2).bind fun z2 =>
    if v1 < z2 then
      (rQ g 111 v0 1).bind fun z3 =>
      (rQ g 104 z3 1).bind fun z4 =>
      (aI g 1 z4 v1).bind fun z5 =>
      some z5
    else
      some (-1)
set_option maxRecDepth 20000 in
theorem d_H_out {L : Nat} {xs : Nat → Int32} {Q : Option Value → ab_H → Prop} {v0 : Nat} {v1 : Int32} {g : g_S} {out : Int32} (e : M_H_out v0 v1 g = some out) (c : Q (some (.int out)) (hp g)) : mw (ab_ext L xs) J_H_out [.ref v0, .int v1] (hp g) Q := by
  unfold M_H_out at e
  refine wp_p (j := J_H_out) 1 (pc' := 1) (lv' := [(0, .ref v0), (1, .int v1)]) (st' := [.int v1]) rfl ?_
  refine z_lt e rfl (fun e => ?_) (fun e => ?_)
  · refine wp_p (j := J_H_out) 1 (pc' := 28) (lv' := [(0, .ref v0), (1, .int v1)]) (st' := [.int (-1)]) rfl ?_
    have e := Option.some.inj e; subst e; exact wp_iret (ty := .int) rfl rfl rfl c
  · refine wp_p (j := J_H_out) 2 (pc' := 6) (lv' := [(0, .ref v0), (1, .int v1)]) (st' := [.ref v0, .int v1]) rfl ?_
    refine x_gQ e rfl rfl fd_11_1 rfl (fun z1 e => ?_)
    refine x_gI e rfl rfl fd_4_2 rfl (fun z2 e => ?_)
    refine x_ge e rfl (fun e => ?_) (fun e => ?_)
    · refine wp_p (j := J_H_out) 1 (pc' := 16) (lv' := [(0, .ref v0), (1, .int v1)]) (st' := [.ref v0]) rfl ?_
      refine x_gQ e rfl rfl fd_11_1 rfl (fun z3 e => ?_)
      refine x_gQ e rfl rfl fd_4_1 rfl (fun z4 e => ?_)
      refine wp_p (j := J_H_out) 1 (pc' := 23) (lv' := [(0, .ref v0), (1, .int v1)]) (st' := [.int v1, .ref z4]) rfl ?_
      refine x_aB e rfl (.inl rfl) rfl (fun z5 e => ?_)
      refine wp_p (j := J_H_out) 1 (pc' := 28) (lv' := [(0, .ref v0), (1, .int v1)]) (st' := [.int z5]) rfl ?_
      have e := Option.some.inj e; subst e; exact wp_iret (ty := .int) rfl rfl rfl c
    · refine wp_p (j := J_H_out) 1 (pc' := 28) (lv' := [(0, .ref v0), (1, .int v1)]) (st' := [.int (-1)]) rfl ?_
      have e := Option.some.inj e; subst e; exact wp_iret (ty := .int) rfl rfl rfl c
def cL_H_wrongByte_2 (L : Nat) (xs : Nat → Int32) (Q : Option Value → ab_H → Prop) (v0 : Nat) (g : g_S) (out : (Int32) ⊕ ((Int32) ⊕ (Unit))) : Prop := match out with
  | .inl s => wp (ab_ext L xs) J_H_wrongByte 2 [(0, .ref v0), (1, .int s)] [] (hp g) Q
  | .inr (.inl s) => wp (ab_ext L xs) J_H_wrongByte 41 [(1, .int s)] [] (hp g) Q
  | .inr (.inr s) => wp (ab_ext L xs) J_H_wrongByte 53 [] [] (hp g) Q
noncomputable def b_H_wrongByte_2 (v0 : Nat) (v1 : Int32) (g : g_S) : Option ((Int32) ⊕ ((Int32) ⊕ (Unit))) :=
  (rQ g 111 v0 0).bind fun z1 =>
  (rI g 104 z1 2).bind fun z2 =>
  if v1 < z2 then
    (rQ g 111 v0 0).bind fun z3 =>
    (rQ g 104 z3 1).bind fun z4 =>
    (aI g 1 z4 v1).bind fun z5 =>
    if z5 = 10 then
      some (.inl (v1 + 1))
    else
      if z5 < 32 then
        some (.inr (.inl v1))
      else
        if 126 < z5 then
          some (.inr (.inl v1))
        else
          some (.inl (v1 + 1))
  else
    some (.inr (.inr ()))
set_option maxRecDepth 20000 in
theorem y_H_wrongByte_2 {L : Nat} {xs : Nat → Int32} {Q : Option Value → ab_H → Prop} {v0 : Nat} {v1 : Int32} {g : g_S} {out : (Int32) ⊕ ((Int32) ⊕ (Unit))} (e : b_H_wrongByte_2 v0 v1 g = some out) (c : cL_H_wrongByte_2 L xs Q v0 g out) : wp (ab_ext L xs) J_H_wrongByte 2 [(0, .ref v0), (1, .int v1)] [] (hp g) Q := by
  unfold b_H_wrongByte_2 at e
  refine wp_p (j := J_H_wrongByte) 2 (pc' := 4) (lv' := [(0, .ref v0), (1, .int v1)]) (st' := [.ref v0, .int v1]) rfl ?_
  refine x_gQ e rfl rfl fd_11_0 rfl (fun z1 e => ?_)
  refine x_gI e rfl rfl fd_4_2 rfl (fun z2 e => ?_)
  refine x_ge e rfl (fun e => ?_) (fun e => ?_)
  · refine wp_p (j := J_H_wrongByte) 1 (pc' := 14) (lv' := [(0, .ref v0), (1, .int v1)]) (st' := [.ref v0]) rfl ?_
    refine x_gQ e rfl rfl fd_11_0 rfl (fun z3 e => ?_)
    refine x_gQ e rfl rfl fd_4_1 rfl (fun z4 e => ?_)
    refine wp_p (j := J_H_wrongByte) 1 (pc' := 21) (lv' := [(0, .ref v0), (1, .int v1)]) (st' := [.int v1, .ref z4]) rfl ?_
    refine x_aB e rfl (.inl rfl) rfl (fun z5 e => ?_)
    refine wp_p (j := J_H_wrongByte) 3 (pc' := 26) (lv' := [(2, .int z5), (0, .ref v0), (1, .int v1)]) (st' := [.int 10, .int z5]) rfl ?_
    refine x_eq e rfl (fun e => ?_) (fun e => ?_)
    · refine wp_p (j := J_H_wrongByte) 2 (pc' := 2) (lv' := [(1, .int (v1 + 1)), (2, .int z5), (0, .ref v0)]) (st' := []) rfl ?_
      have e := Option.some.inj e; subst e; exact wp_lv (lv' := [(0, .ref v0), (1, .int (v1 + 1))]) rfl ⟨rfl, rfl, trivial⟩ c
    · refine wp_p (j := J_H_wrongByte) 2 (pc' := 32) (lv' := [(2, .int z5), (0, .ref v0), (1, .int v1)]) (st' := [.int 32, .int z5]) rfl ?_
      refine x_lt e rfl (fun e => ?_) (fun e => ?_)
      · have e := Option.some.inj e; subst e; exact wp_lv (lv' := [(1, .int v1)]) rfl ⟨rfl, trivial⟩ c
      · refine wp_p (j := J_H_wrongByte) 2 (pc' := 38) (lv' := [(2, .int z5), (0, .ref v0), (1, .int v1)]) (st' := [.int 126, .int z5]) rfl ?_
        refine x_le e rfl (fun e => ?_) (fun e => ?_)
        · have e := Option.some.inj e; subst e; exact wp_lv (lv' := [(1, .int v1)]) rfl ⟨rfl, trivial⟩ c
        · refine wp_p (j := J_H_wrongByte) 2 (pc' := 2) (lv' := [(1, .int (v1 + 1)), (2, .int z5), (0, .ref v0)]) (st' := []) rfl ?_
          have e := Option.some.inj e; subst e; exact wp_lv (lv' := [(0, .ref v0), (1, .int (v1 + 1))]) rfl ⟨rfl, rfl, trivial⟩ c
  · have e := Option.some.inj e; subst e; exact wp_lv (lv' := []) rfl trivial c
noncomputable def L_H_wrongByte_2 (v0 : Nat) (v1 : Int32) (g : g_S) : Option ((Int32) ⊕ (Unit)) := it (fun s : Int32 => b_H_wrongByte_2 v0 s g) (v1)
theorem l_H_wrongByte_2 {L : Nat} {xs : Nat → Int32} {Q : Option Value → ab_H → Prop} {v0 : Nat} {v1 : Int32} {g : g_S} {r : (Int32) ⊕ (Unit)} (e : L_H_wrongByte_2 v0 v1 g = some r) (c : cL_H_wrongByte_2 L xs Q v0 g (.inr r)) : wp (ab_ext L xs) J_H_wrongByte 2 [(0, .ref v0), (1, .int v1)] [] (hp g) Q :=
  it_wp (P := fun s : Int32 => wp (ab_ext L xs) J_H_wrongByte 2 [(0, .ref v0), (1, .int s)] [] (hp g) Q) (E := fun r => cL_H_wrongByte_2 L xs Q v0 g (.inr r)) (fun s out e c => y_H_wrongByte_2 e (by cases out <;> exact c)) e c
theorem L_H_wrongByte_2_eq (v0 : Nat) (v1 : Int32) (g : g_S) : L_H_wrongByte_2 v0 v1 g = itc (b_H_wrongByte_2 v0 v1 g) (fun s => L_H_wrongByte_2 v0 s g) := it_eq2 (fun s : Int32 => b_H_wrongByte_2 v0 s g) (v1)
noncomputable def M_H_wrongByte (v0 : Nat) (g : g_S) : Option Int32 :=
  (L_H_wrongByte_2 v0 0 g).bind <|
    us (fun z3 =>
    some ((-1000) - z3))
    (fun _ =>
    some 0)
set_option maxRecDepth 20000 in
theorem d_H_wrongByte {L : Nat} {xs : Nat → Int32} {Q : Option Value → ab_H → Prop} {v0 : Nat} {g : g_S} {out : Int32} (e : M_H_wrongByte v0 g = some out) (c : Q (some (.int out)) (hp g)) : mw (ab_ext L xs) J_H_wrongByte [.ref v0] (hp g) Q := by
  unfold M_H_wrongByte at e
  refine wp_p (j := J_H_wrongByte) 2 (pc' := 2) (lv' := [(1, .int 0), (0, .ref v0)]) (st' := []) rfl ?_
  obtain ⟨s1, h2, e⟩ := bd e
  refine wp_lv (lv' := [(0, .ref v0), (1, .int 0)]) rfl ⟨rfl, rfl, trivial⟩ ?_
  refine l_H_wrongByte_2 h2 ?_
  rcases s1 with z3 | _
  · replace e := (us_l e)
    show wp (ab_ext L xs) J_H_wrongByte 41 [(1, .int z3)] [] (hp g) Q
    refine wp_p (j := J_H_wrongByte) 3 (pc' := 46) (lv' := [(1, .int z3)]) (st' := [.int ((-1000) - z3)]) rfl ?_
    have e := Option.some.inj e; subst e; exact wp_iret (ty := .int) rfl rfl rfl c
  · replace e := (us_r e)
    show wp (ab_ext L xs) J_H_wrongByte 53 [] [] (hp g) Q
    refine wp_p (j := J_H_wrongByte) 1 (pc' := 54) (lv' := []) (st' := [.int 0]) rfl ?_
    have e := Option.some.inj e; subst e; exact wp_iret (ty := .int) rfl rfl rfl c
