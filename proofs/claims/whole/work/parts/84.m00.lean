/-! methods as functions, group 0 -/
noncomputable def M_Bytes_init (v0 : Nat) (v1 : Int32) (g : g_S) : Option g_S :=
  (wI g 104 v0 0 v1).bind fun g1 =>
  c2 (nA g1 1 16) fun u2 g3 =>
  (wR g3 104 v0 1 (some u2)).bind fun g4 =>
  some g4
set_option maxRecDepth 20000 in
theorem d_Bytes_init {L : Nat} {xs : Nat → Int32} {Q : Option Value → ab_H → Prop} {v0 : Nat} {v1 : Int32} {g : g_S} {out : g_S} (e : M_Bytes_init v0 v1 g = some out) (c : Q none (hp out)) : mw (ab_ext L xs) J_Bytes_init [.ref v0, .int v1] (hp g) Q := by
  unfold M_Bytes_init at e
  refine wp_p (j := J_Bytes_init) 1 (pc' := 1) (lv' := [(0, .ref v0), (1, .int v1)]) (st' := [.ref v0]) rfl ?_
  refine wp_obj rfl (Nat.le_of_ble_eq_true rfl) ?_
  refine wp_p (j := J_Bytes_init) 2 (pc' := 6) (lv' := [(0, .ref v0), (1, .int v1)]) (st' := [.int v1, .ref v0]) rfl ?_
  refine x_pI e rfl rfl fw_4_0 rfl (fun g1 e => ?_)
  refine wp_p (j := J_Bytes_init) 2 (pc' := 12) (lv' := [(0, .ref v0), (1, .int v1)]) (st' := [.int 16, .ref v0]) rfl ?_
  refine x_nA e rfl rfl rfl (fun u2 g3 e => ?_)
  refine x_pR (r := (some u2)) e rfl rfl fd_4_1 rfl (fun g4 e => ?_)
  cases e; exact wp_vret rfl rfl c
def cL_Node_init_60 (L : Nat) (xs : Nat → Int32) (Q : Option Value → ab_H → Prop) (v0 : Nat) (out : (Int32 × g_S) ⊕ (g_S)) : Prop := match out with
  | .inl s => wp (ab_ext L xs) J_Node_init 60 [(0, .ref v0), (1, .int s.1)] [] (hp s.2) Q
  | .inr s => wp (ab_ext L xs) J_Node_init 86 [] [] (hp s) Q
noncomputable def b_Node_init_60 (v0 : Nat) (v1 : Int32) (g : g_S) : Option ((Int32 × g_S) ⊕ (g_S)) :=
  if v1 < 4 then
    (rQ g 107 v0 14).bind fun u1 =>
    c2 (nO g 104) fun u2 g3 =>
    (M_Bytes_init u2 60 g3).bind fun g4 =>
    (sQ g4 4 u1 v1 u2).bind fun g5 =>
    some (.inl (v1 + 1, g5))
  else
    some (.inr g)
set_option maxRecDepth 20000 in
theorem y_Node_init_60 {L : Nat} {xs : Nat → Int32} {Q : Option Value → ab_H → Prop} {v0 : Nat} {v1 : Int32} {g : g_S} {out : (Int32 × g_S) ⊕ (g_S)} (e : b_Node_init_60 v0 v1 g = some out) (c : cL_Node_init_60 L xs Q v0 out) : wp (ab_ext L xs) J_Node_init 60 [(0, .ref v0), (1, .int v1)] [] (hp g) Q := by
  unfold b_Node_init_60 at e
  refine wp_p (j := J_Node_init) 2 (pc' := 62) (lv' := [(0, .ref v0), (1, .int v1)]) (st' := [.int 4, .int v1]) rfl ?_
  refine x_ge e rfl (fun e => ?_) (fun e => ?_)
  · refine wp_p (j := J_Node_init) 1 (pc' := 66) (lv' := [(0, .ref v0), (1, .int v1)]) (st' := [.ref v0]) rfl ?_
    refine x_gQ e rfl rfl fd_7_14 rfl (fun u1 e => ?_)
    refine wp_p (j := J_Node_init) 1 (pc' := 70) (lv' := [(0, .ref v0), (1, .int v1)]) (st' := [.int v1, .ref u1]) rfl ?_
    refine x_nO e rfl rfl rfl (fun u2 g3 e => ?_)
    refine wp_p (j := J_Node_init) 2 (pc' := 76) (lv' := [(0, .ref v0), (1, .int v1)]) (st' := [.int 60, .ref u2, .ref u2, .int v1, .ref u1]) rfl ?_
    refine x_ci0 (As := [.int 60]) (rest := [.ref u2, .int v1, .ref u1]) e rfl rfl rfl rfl rfl (fun h => d_Bytes_init h ⟨rfl, rfl⟩) (fun g4 e => ?_)
    refine x_sQ e rfl rfl rfl (fun g5 e => ?_)
    refine wp_p (j := J_Node_init) 2 (pc' := 60) (lv' := [(1, .int (v1 + 1)), (0, .ref v0)]) (st' := []) rfl ?_
    cases e; exact wp_lv (lv' := [(0, .ref v0), (1, .int (v1 + 1))]) rfl ⟨rfl, rfl, trivial⟩ c
  · cases e; exact wp_lv (lv' := []) rfl trivial c
noncomputable def L_Node_init_60 (v0 : Nat) (v1 : Int32) (g : g_S) : Option (g_S) := it (fun s : Int32 × g_S => b_Node_init_60 v0 s.1 s.2) (v1, g)
theorem l_Node_init_60 {L : Nat} {xs : Nat → Int32} {Q : Option Value → ab_H → Prop} {v0 : Nat} {v1 : Int32} {g : g_S} {r : g_S} (e : L_Node_init_60 v0 v1 g = some r) (c : cL_Node_init_60 L xs Q v0 (.inr r)) : wp (ab_ext L xs) J_Node_init 60 [(0, .ref v0), (1, .int v1)] [] (hp g) Q :=
  it_wp (P := fun s : Int32 × g_S => wp (ab_ext L xs) J_Node_init 60 [(0, .ref v0), (1, .int s.1)] [] (hp s.2) Q) (E := fun r => cL_Node_init_60 L xs Q v0 (.inr r)) (fun s out e c => y_Node_init_60 e (by cases out <;> exact c)) e c
theorem L_Node_init_60_eq (v0 : Nat) (v1 : Int32) (g : g_S) : L_Node_init_60 v0 v1 g = itc (b_Node_init_60 v0 v1 g) (fun s => L_Node_init_60 v0 s.1 s.2) := it_eq2 (fun s : Int32 × g_S => b_Node_init_60 v0 s.1 s.2) (v1, g)
noncomputable def M_Node_init (v0 : Nat) (g : g_S) : Option g_S :=
  (wI g 107 v0 0 (-1)).bind fun g1 =>
  (wI g1 107 v0 2 (-1)).bind fun g2 =>
  (wI g2 107 v0 3 (-1)).bind fun g3 =>
  (wI g3 107 v0 4 (-1)).bind fun g4 =>
  (wI g4 107 v0 5 (-1)).bind fun g5 =>
  c2 (nO g5 104) fun u6 g7 =>
  (M_Bytes_init u6 400 g7).bind fun g8 =>
  (wR g8 107 v0 11 (some u6)).bind fun g9 =>
  c2 (nA g9 3 4) fun u10 g11 =>
  (wR g11 107 v0 13 (some u10)).bind fun g12 =>
  c2 (nA g12 4 4) fun u13 g14 =>
  (wR g14 107 v0 14 (some u13)).bind fun g15 =>
  (L_Node_init_60 v0 0 g15).bind <| fun g18 =>
  some g18
set_option maxRecDepth 20000 in
theorem d_Node_init {L : Nat} {xs : Nat → Int32} {Q : Option Value → ab_H → Prop} {v0 : Nat} {g : g_S} {out : g_S} (e : M_Node_init v0 g = some out) (c : Q none (hp out)) : mw (ab_ext L xs) J_Node_init [.ref v0] (hp g) Q := by
  unfold M_Node_init at e
  refine wp_p (j := J_Node_init) 1 (pc' := 1) (lv' := [(0, .ref v0)]) (st' := [.ref v0]) rfl ?_
  refine wp_obj rfl (Nat.le_of_ble_eq_true rfl) ?_
  refine wp_p (j := J_Node_init) 2 (pc' := 6) (lv' := [(0, .ref v0)]) (st' := [.int (-1), .ref v0]) rfl ?_
  refine x_pI e rfl rfl fw_7_0 rfl (fun g1 e => ?_)
  refine wp_p (j := J_Node_init) 2 (pc' := 11) (lv' := [(0, .ref v0)]) (st' := [.int (-1), .ref v0]) rfl ?_
  refine x_pI e rfl rfl fw_7_2 rfl (fun g2 e => ?_)
  refine wp_p (j := J_Node_init) 2 (pc' := 16) (lv' := [(0, .ref v0)]) (st' := [.int (-1), .ref v0]) rfl ?_
  refine x_pI e rfl rfl fw_7_3 rfl (fun g3 e => ?_)
  refine wp_p (j := J_Node_init) 2 (pc' := 21) (lv' := [(0, .ref v0)]) (st' := [.int (-1), .ref v0]) rfl ?_
  refine x_pI e rfl rfl fw_7_4 rfl (fun g4 e => ?_)
  refine wp_p (j := J_Node_init) 2 (pc' := 26) (lv' := [(0, .ref v0)]) (st' := [.int (-1), .ref v0]) rfl ?_
  refine x_pI e rfl rfl fw_7_5 rfl (fun g5 e => ?_)
  refine wp_p (j := J_Node_init) 1 (pc' := 30) (lv' := [(0, .ref v0)]) (st' := [.ref v0]) rfl ?_
  refine x_nO e rfl rfl rfl (fun u6 g7 e => ?_)
  refine wp_p (j := J_Node_init) 2 (pc' := 37) (lv' := [(0, .ref v0)]) (st' := [.int 400, .ref u6, .ref u6, .ref v0]) rfl ?_
  refine x_ci0 (As := [.int 400]) (rest := [.ref u6, .ref v0]) e rfl rfl rfl rfl rfl (fun h => d_Bytes_init h ⟨rfl, rfl⟩) (fun g8 e => ?_)
  refine x_pR (r := (some u6)) e rfl rfl fd_7_11 rfl (fun g9 e => ?_)
  refine wp_p (j := J_Node_init) 2 (pc' := 45) (lv' := [(0, .ref v0)]) (st' := [.int 4, .ref v0]) rfl ?_
  refine x_nA e rfl rfl rfl (fun u10 g11 e => ?_)
  refine x_pR (r := (some u10)) e rfl rfl fd_7_13 rfl (fun g12 e => ?_)
  refine wp_p (j := J_Node_init) 2 (pc' := 52) (lv' := [(0, .ref v0)]) (st' := [.int 4, .ref v0]) rfl ?_
  refine x_nQ e rfl rfl rfl (fun u13 g14 e => ?_)
  refine x_pR (r := (some u13)) e rfl rfl fd_7_14 rfl (fun g15 e => ?_)
  refine wp_p (j := J_Node_init) 2 (pc' := 60) (lv' := [(1, .int 0), (0, .ref v0)]) (st' := []) rfl ?_
  obtain ⟨g18, h17, e⟩ := bd e
  refine wp_lv (lv' := [(0, .ref v0), (1, .int 0)]) rfl ⟨rfl, rfl, trivial⟩ ?_
  refine l_Node_init_60 h17 ?_
  show wp (ab_ext L xs) J_Node_init 86 [] [] (hp g18) Q
  cases e; exact wp_vret rfl rfl c
def cL_Tree_init_36 (L : Nat) (xs : Nat → Int32) (Q : Option Value → ab_H → Prop) (v0 : Nat) (out : (Int32 × g_S) ⊕ (g_S)) : Prop := match out with
  | .inl s => wp (ab_ext L xs) J_Tree_init 36 [(0, .ref v0), (1, .int s.1)] [] (hp s.2) Q
  | .inr s => wp (ab_ext L xs) J_Tree_init 61 [(0, .ref v0)] [] (hp s) Q
noncomputable def b_Tree_init_36 (v0 : Nat) (v1 : Int32) (g : g_S) : Option ((Int32 × g_S) ⊕ (g_S)) :=
  if v1 < 120 then
    (rQ g 110 v0 0).bind fun u1 =>
    c2 (nO g 107) fun u2 g3 =>
    (M_Node_init u2 g3).bind fun g4 =>
    (sQ g4 5 u1 v1 u2).bind fun g5 =>
    some (.inl (v1 + 1, g5))
  else
    some (.inr g)
set_option maxRecDepth 20000 in
theorem y_Tree_init_36 {L : Nat} {xs : Nat → Int32} {Q : Option Value → ab_H → Prop} {v0 : Nat} {v1 : Int32} {g : g_S} {out : (Int32 × g_S) ⊕ (g_S)} (e : b_Tree_init_36 v0 v1 g = some out) (c : cL_Tree_init_36 L xs Q v0 out) : wp (ab_ext L xs) J_Tree_init 36 [(0, .ref v0), (1, .int v1)] [] (hp g) Q := by
  unfold b_Tree_init_36 at e
  refine wp_p (j := J_Tree_init) 2 (pc' := 39) (lv' := [(0, .ref v0), (1, .int v1)]) (st' := [.int 120, .int v1]) rfl ?_
  refine x_ge e rfl (fun e => ?_) (fun e => ?_)
  · refine wp_p (j := J_Tree_init) 1 (pc' := 43) (lv' := [(0, .ref v0), (1, .int v1)]) (st' := [.ref v0]) rfl ?_
    refine x_gQ e rfl rfl fd_10_0 rfl (fun u1 e => ?_)
    refine wp_p (j := J_Tree_init) 1 (pc' := 47) (lv' := [(0, .ref v0), (1, .int v1)]) (st' := [.int v1, .ref u1]) rfl ?_
    refine x_nO e rfl rfl rfl (fun u2 g3 e => ?_)
    refine wp_p (j := J_Tree_init) 1 (pc' := 51) (lv' := [(0, .ref v0), (1, .int v1)]) (st' := [.ref u2, .ref u2, .int v1, .ref u1]) rfl ?_
    refine x_ci0 (As := []) (rest := [.ref u2, .int v1, .ref u1]) e rfl rfl rfl rfl rfl (fun h => d_Node_init h ⟨rfl, rfl⟩) (fun g4 e => ?_)
    refine x_sQ e rfl rfl rfl (fun g5 e => ?_)
    refine wp_p (j := J_Tree_init) 2 (pc' := 36) (lv' := [(1, .int (v1 + 1)), (0, .ref v0)]) (st' := []) rfl ?_
    cases e; exact wp_lv (lv' := [(0, .ref v0), (1, .int (v1 + 1))]) rfl ⟨rfl, rfl, trivial⟩ c
  · cases e; exact wp_lv (lv' := [(0, .ref v0)]) rfl ⟨rfl, trivial⟩ c
noncomputable def L_Tree_init_36 (v0 : Nat) (v1 : Int32) (g : g_S) : Option (g_S) := it (fun s : Int32 × g_S => b_Tree_init_36 v0 s.1 s.2) (v1, g)
theorem l_Tree_init_36 {L : Nat} {xs : Nat → Int32} {Q : Option Value → ab_H → Prop} {v0 : Nat} {v1 : Int32} {g : g_S} {r : g_S} (e : L_Tree_init_36 v0 v1 g = some r) (c : cL_Tree_init_36 L xs Q v0 (.inr r)) : wp (ab_ext L xs) J_Tree_init 36 [(0, .ref v0), (1, .int v1)] [] (hp g) Q :=
  it_wp (P := fun s : Int32 × g_S => wp (ab_ext L xs) J_Tree_init 36 [(0, .ref v0), (1, .int s.1)] [] (hp s.2) Q) (E := fun r => cL_Tree_init_36 L xs Q v0 (.inr r)) (fun s out e c => y_Tree_init_36 e (by cases out <;> exact c)) e c
theorem L_Tree_init_36_eq (v0 : Nat) (v1 : Int32) (g : g_S) : L_Tree_init_36 v0 v1 g = itc (b_Tree_init_36 v0 v1 g) (fun s => L_Tree_init_36 v0 s.1 s.2) := it_eq2 (fun s : Int32 × g_S => b_Tree_init_36 v0 s.1 s.2) (v1, g)
def cL_Tree_init_65 (L : Nat) (xs : Nat → Int32) (Q : Option Value → ab_H → Prop) (v0 : Nat) (out : (Int32 × Int32 × g_S) ⊕ (g_S)) : Prop := match out with
  | .inl s => wp (ab_ext L xs) J_Tree_init 65 [(0, .ref v0), (1, .int s.1), (2, .int s.2.1)] [] (hp s.2.2) Q
  | .inr s => wp (ab_ext L xs) J_Tree_init 126 [] [] (hp s) Q
noncomputable def b_Tree_init_65 (v0 : Nat) (v1 : Int32) (v2 : Int32) (g : g_S) : Option ((Int32 × Int32 × g_S) ⊕ (g_S)) :=
  (tN 1000000).bind fun u1 =>
  if v2 < u1 then
    if v1 < 16 then
      (tC 1000000 v2).bind fun u2 =>
      if u2 = 32 then
        some (.inl (v1 + 1, v2 + 1, g))
      else
        (rQ g 110 v0 1).bind fun u3 =>
        (rQ g 110 v0 1).bind fun u4 =>
        (aL g u4 v1).bind fun u5 =>
        (tC 1000000 v2).bind fun u6 =>
        (sL g u3 v1 ((u5 <<< ((8 : Int32).toInt64 &&& 63)) ||| (Int32.toInt64 u6))).bind fun g7 =>
        some (.inl (v1, v2 + 1, g7))
    else
      some (.inr g)
  else
    some (.inr g)
set_option maxRecDepth 20000 in
theorem y_Tree_init_65 {L : Nat} {xs : Nat → Int32} {Q : Option Value → ab_H → Prop} {v0 : Nat} {v1 : Int32} {v2 : Int32} {g : g_S} {out : (Int32 × Int32 × g_S) ⊕ (g_S)} (e : b_Tree_init_65 v0 v1 v2 g = some out) (c : cL_Tree_init_65 L xs Q v0 out) : wp (ab_ext L xs) J_Tree_init 65 [(0, .ref v0), (1, .int v1), (2, .int v2)] [] (hp g) Q := by
  unfold b_Tree_init_65 at e
  refine wp_p (j := J_Tree_init) 1 (pc' := 66) (lv' := [(0, .ref v0), (1, .int v1), (2, .int v2)]) (st' := [.int v2]) rfl ?_
  refine x_ls rfl rfl ?_
  refine x_tN e rfl rfl (fun u1 e => ?_)
  refine x_ge e rfl (fun e => ?_) (fun e => ?_)
  · refine wp_p (j := J_Tree_init) 2 (pc' := 77) (lv' := [(0, .ref v0), (1, .int v1), (2, .int v2)]) (st' := [.int 16, .int v1]) rfl ?_
    refine x_ge e rfl (fun e => ?_) (fun e => ?_)
    · refine x_ls rfl rfl ?_
      refine wp_p (j := J_Tree_init) 1 (pc' := 83) (lv' := [(0, .ref v0), (1, .int v1), (2, .int v2)]) (st' := [.int v2, .ref 1000000]) rfl ?_
      refine x_tC e rfl rfl (fun u2 e => ?_)
      refine wp_p (j := J_Tree_init) 1 (pc' := 88) (lv' := [(0, .ref v0), (1, .int v1), (2, .int v2)]) (st' := [.int 32, .int u2]) rfl ?_
      refine x_ne e rfl (fun e => ?_) (fun e => ?_)
      · refine wp_p (j := J_Tree_init) 4 (pc' := 65) (lv' := [(2, .int (v2 + 1)), (1, .int (v1 + 1)), (0, .ref v0)]) (st' := []) rfl ?_
        cases e; exact wp_lv (lv' := [(0, .ref v0), (1, .int (v1 + 1)), (2, .int (v2 + 1))]) rfl ⟨rfl, rfl, rfl, trivial⟩ c
      · refine wp_p (j := J_Tree_init) 1 (pc' := 98) (lv' := [(0, .ref v0), (1, .int v1), (2, .int v2)]) (st' := [.ref v0]) rfl ?_
        refine x_gQ e rfl rfl fd_10_1 rfl (fun u3 e => ?_)
        refine wp_p (j := J_Tree_init) 2 (pc' := 103) (lv' := [(0, .ref v0), (1, .int v1), (2, .int v2)]) (st' := [.ref v0, .int v1, .ref u3]) rfl ?_
        refine x_gQ e rfl rfl fd_10_1 rfl (fun u4 e => ?_)
        refine wp_p (j := J_Tree_init) 1 (pc' := 107) (lv' := [(0, .ref v0), (1, .int v1), (2, .int v2)]) (st' := [.int v1, .ref u4, .int v1, .ref u3]) rfl ?_
        refine x_aL e rfl rfl (fun u5 e => ?_)
        refine wp_p (j := J_Tree_init) 2 (pc' := 111) (lv' := [(0, .ref v0), (1, .int v1), (2, .int v2)]) (st' := [.long (u5 <<< ((8 : Int32).toInt64 &&& 63)), .int v1, .ref u3]) rfl ?_
        refine x_ls rfl rfl ?_
        refine wp_p (j := J_Tree_init) 1 (pc' := 114) (lv' := [(0, .ref v0), (1, .int v1), (2, .int v2)]) (st' := [.int v2, .ref 1000000, .long (u5 <<< ((8 : Int32).toInt64 &&& 63)), .int v1, .ref u3]) rfl ?_
        refine x_tC e rfl rfl (fun u6 e => ?_)
        refine wp_p (j := J_Tree_init) 2 (pc' := 119) (lv' := [(0, .ref v0), (1, .int v1), (2, .int v2)]) (st' := [.long ((u5 <<< ((8 : Int32).toInt64 &&& 63)) ||| (Int32.toInt64 u6)), .int v1, .ref u3]) rfl ?_
        refine x_sL e rfl rfl (fun g7 e => ?_)
        refine wp_p (j := J_Tree_init) 2 (pc' := 65) (lv' := [(2, .int (v2 + 1)), (0, .ref v0), (1, .int v1)]) (st' := []) rfl ?_
        cases e; exact wp_lv (lv' := [(0, .ref v0), (1, .int v1), (2, .int (v2 + 1))]) rfl ⟨rfl, rfl, rfl, trivial⟩ c
    · cases e; exact wp_lv (lv' := []) rfl trivial c
  · cases e; exact wp_lv (lv' := []) rfl trivial c
noncomputable def L_Tree_init_65 (v0 : Nat) (v1 : Int32) (v2 : Int32) (g : g_S) : Option (g_S) := it (fun s : Int32 × Int32 × g_S => b_Tree_init_65 v0 s.1 s.2.1 s.2.2) (v1, v2, g)
theorem l_Tree_init_65 {L : Nat} {xs : Nat → Int32} {Q : Option Value → ab_H → Prop} {v0 : Nat} {v1 : Int32} {v2 : Int32} {g : g_S} {r : g_S} (e : L_Tree_init_65 v0 v1 v2 g = some r) (c : cL_Tree_init_65 L xs Q v0 (.inr r)) : wp (ab_ext L xs) J_Tree_init 65 [(0, .ref v0), (1, .int v1), (2, .int v2)] [] (hp g) Q :=
  it_wp (P := fun s : Int32 × Int32 × g_S => wp (ab_ext L xs) J_Tree_init 65 [(0, .ref v0), (1, .int s.1), (2, .int s.2.1)] [] (hp s.2.2) Q) (E := fun r => cL_Tree_init_65 L xs Q v0 (.inr r)) (fun s out e c => y_Tree_init_65 e (by cases out <;> exact c)) e c
theorem L_Tree_init_65_eq (v0 : Nat) (v1 : Int32) (v2 : Int32) (g : g_S) : L_Tree_init_65 v0 v1 v2 g = itc (b_Tree_init_65 v0 v1 v2 g) (fun s => L_Tree_init_65 v0 s.1 s.2.1 s.2.2) := it_eq2 (fun s : Int32 × Int32 × g_S => b_Tree_init_65 v0 s.1 s.2.1 s.2.2) (v1, v2, g)
noncomputable def M_Tree_init (v0 : Nat) (g : g_S) : Option g_S :=
  c2 (nA g 5 120) fun u1 g2 =>
  (wR g2 110 v0 0 (some u1)).bind fun g3 =>
  c2 (nA g3 3 16) fun u4 g5 =>
  (wR g5 110 v0 1 (some u4)).bind fun g6 =>
  c2 (nA g6 0 120) fun u7 g8 =>
  (wR g8 110 v0 2 (some u7)).bind fun g9 =>
  (wI g9 110 v0 4 (-1)).bind fun g10 =>
  (L_Tree_init_36 v0 0 g10).bind <| fun g13 =>
  (L_Tree_init_65 v0 0 0 g13).bind <| fun g16 =>
  some g16
set_option maxRecDepth 20000 in
theorem d_Tree_init {L : Nat} {xs : Nat → Int32} {Q : Option Value → ab_H → Prop} {v0 : Nat} {g : g_S} {out : g_S} (e : M_Tree_init v0 g = some out) (c : Q none (hp out)) : mw (ab_ext L xs) J_Tree_init [.ref v0] (hp g) Q := by
  unfold M_Tree_init at e
  refine wp_p (j := J_Tree_init) 1 (pc' := 1) (lv' := [(0, .ref v0)]) (st' := [.ref v0]) rfl ?_
  refine wp_obj rfl (Nat.le_of_ble_eq_true rfl) ?_
  refine wp_p (j := J_Tree_init) 2 (pc' := 7) (lv' := [(0, .ref v0)]) (st' := [.int 120, .ref v0]) rfl ?_
  refine x_nQ e rfl rfl rfl (fun u1 g2 e => ?_)
  refine x_pR (r := (some u1)) e rfl rfl fd_10_0 rfl (fun g3 e => ?_)
  refine wp_p (j := J_Tree_init) 2 (pc' := 16) (lv' := [(0, .ref v0)]) (st' := [.int 16, .ref v0]) rfl ?_
  refine x_nA e rfl rfl rfl (fun u4 g5 e => ?_)
  refine x_pR (r := (some u4)) e rfl rfl fd_10_1 rfl (fun g6 e => ?_)
  refine wp_p (j := J_Tree_init) 2 (pc' := 24) (lv' := [(0, .ref v0)]) (st' := [.int 120, .ref v0]) rfl ?_
  refine x_nA e rfl rfl rfl (fun u7 g8 e => ?_)
  refine x_pR (r := (some u7)) e rfl rfl fd_10_2 rfl (fun g9 e => ?_)
  refine wp_p (j := J_Tree_init) 2 (pc' := 31) (lv' := [(0, .ref v0)]) (st' := [.int (-1), .ref v0]) rfl ?_
  refine x_pI e rfl rfl fw_10_4 rfl (fun g10 e => ?_)
  refine wp_p (j := J_Tree_init) 2 (pc' := 36) (lv' := [(1, .int 0), (0, .ref v0)]) (st' := []) rfl ?_
  obtain ⟨g13, h12, e⟩ := bd e
  refine wp_lv (lv' := [(0, .ref v0), (1, .int 0)]) rfl ⟨rfl, rfl, trivial⟩ ?_
  refine l_Tree_init_36 h12 ?_
  show wp (ab_ext L xs) J_Tree_init 61 [(0, .ref v0)] [] (hp g13) Q
  refine wp_p (j := J_Tree_init) 4 (pc' := 65) (lv' := [(2, .int 0), (1, .int 0), (0, .ref v0)]) (st' := []) rfl ?_
  obtain ⟨g16, h15, e⟩ := bd e
  refine wp_lv (lv' := [(0, .ref v0), (1, .int 0), (2, .int 0)]) rfl ⟨rfl, rfl, rfl, trivial⟩ ?_
  refine l_Tree_init_65 h15 ?_
  show wp (ab_ext L xs) J_Tree_init 126 [] [] (hp g16) Q
  cases e; exact wp_vret rfl rfl c
noncomputable def M_Address_init (v0 : Nat) (g : g_S) : Option g_S :=
  c2 (nA g 1 160) fun u1 g2 =>
  (wR g2 101 v0 0 (some u1)).bind fun g3 =>
  some g3
set_option maxRecDepth 20000 in
theorem d_Address_init {L : Nat} {xs : Nat → Int32} {Q : Option Value → ab_H → Prop} {v0 : Nat} {g : g_S} {out : g_S} (e : M_Address_init v0 g = some out) (c : Q none (hp out)) : mw (ab_ext L xs) J_Address_init [.ref v0] (hp g) Q := by
  unfold M_Address_init at e
  refine wp_p (j := J_Address_init) 1 (pc' := 1) (lv' := [(0, .ref v0)]) (st' := [.ref v0]) rfl ?_
  refine wp_obj rfl (Nat.le_of_ble_eq_true rfl) ?_
  refine wp_p (j := J_Address_init) 2 (pc' := 8) (lv' := [(0, .ref v0)]) (st' := [.int 160, .ref v0]) rfl ?_
  refine x_nA e rfl rfl rfl (fun u1 g2 e => ?_)
  refine x_pR (r := (some u1)) e rfl rfl fd_1_0 rfl (fun g3 e => ?_)
  cases e; exact wp_vret rfl rfl c
noncomputable def M_Answer_init (v0 : Nat) (g : g_S) : Option g_S :=
  c2 (nO g 101) fun u1 g2 =>
  (M_Address_init u1 g2).bind fun g3 =>
  (wR g3 102 v0 0 (some u1)).bind fun g4 =>
  (wI g4 102 v0 1 (-1)).bind fun g5 =>
  c2 (nA g5 1 0) fun u6 g7 =>
  (wR g7 102 v0 6 (some u6)).bind fun g8 =>
  some g8
set_option maxRecDepth 20000 in
theorem d_Answer_init {L : Nat} {xs : Nat → Int32} {Q : Option Value → ab_H → Prop} {v0 : Nat} {g : g_S} {out : g_S} (e : M_Answer_init v0 g = some out) (c : Q none (hp out)) : mw (ab_ext L xs) J_Answer_init [.ref v0] (hp g) Q := by
  unfold M_Answer_init at e
  refine wp_p (j := J_Answer_init) 1 (pc' := 1) (lv' := [(0, .ref v0)]) (st' := [.ref v0]) rfl ?_
  refine wp_obj rfl (Nat.le_of_ble_eq_true rfl) ?_
  refine wp_p (j := J_Answer_init) 1 (pc' := 5) (lv' := [(0, .ref v0)]) (st' := [.ref v0]) rfl ?_
  refine x_nO e rfl rfl rfl (fun u1 g2 e => ?_)
  refine wp_p (j := J_Answer_init) 1 (pc' := 9) (lv' := [(0, .ref v0)]) (st' := [.ref u1, .ref u1, .ref v0]) rfl ?_
  refine x_ci0 (As := []) (rest := [.ref u1, .ref v0]) e rfl rfl rfl rfl rfl (fun h => d_Address_init h ⟨rfl, rfl⟩) (fun g3 e => ?_)
  refine x_pR (r := (some u1)) e rfl rfl fd_2_0 rfl (fun g4 e => ?_)
  refine wp_p (j := J_Answer_init) 2 (pc' := 17) (lv' := [(0, .ref v0)]) (st' := [.int (-1), .ref v0]) rfl ?_
  refine x_pI e rfl rfl fw_2_1 rfl (fun g5 e => ?_)
  refine wp_p (j := J_Answer_init) 2 (pc' := 22) (lv' := [(0, .ref v0)]) (st' := [.int 0, .ref v0]) rfl ?_
  refine x_nA e rfl rfl rfl (fun u6 g7 e => ?_)
  refine x_pR (r := (some u6)) e rfl rfl fd_2_6 rfl (fun g8 e => ?_)
  cases e; exact wp_vret rfl rfl c
noncomputable def M_Arrays_copyOf (v0 : Nat) (v1 : Int32) (g : g_S) : Option (Nat × g_S) :=
  (aN g v0).bind fun u1 =>
  if v1 = u1 then
    none
  else
    c2 (nA g 1 v1) fun u2 g3 =>
    (aN g3 v0).bind fun u4 =>
    (cp g3 1 v0 0 u2 0 (mn u4 v1)).bind fun g5 =>
    some (u2, g5)
set_option maxRecDepth 20000 in
theorem d_Arrays_copyOf {L : Nat} {xs : Nat → Int32} {Q : Option Value → ab_H → Prop} {v0 : Nat} {v1 : Int32} {g : g_S} {out : Nat × g_S} (e : M_Arrays_copyOf v0 v1 g = some out) (c : Q (some (.ref out.1)) (hp out.2)) : mw (ab_ext L xs) J_Arrays_copyOf [.ref v0, .int v1] (hp g) Q := by
  unfold M_Arrays_copyOf at e
  refine wp_p (j := J_Arrays_copyOf) 2 (pc' := 2) (lv' := [(0, .ref v0), (1, .int v1)]) (st' := [.ref v0, .int v1]) rfl ?_
  refine x_aN e rfl rfl (fun u1 e => ?_)
  refine x_ne e rfl (fun e => ?_) (fun e => ?_)
  · refine wp_p (j := J_Arrays_copyOf) 1 (pc' := 7) (lv' := [(0, .ref v0), (1, .int v1)]) (st' := [.ref v0]) rfl ?_
    cases e
  · refine wp_p (j := J_Arrays_copyOf) 1 (pc' := 15) (lv' := [(0, .ref v0), (1, .int v1)]) (st' := [.int v1]) rfl ?_
    refine x_nA e rfl rfl rfl (fun u2 g3 e => ?_)
    refine wp_p (j := J_Arrays_copyOf) 6 (pc' := 23) (lv' := [(2, .ref u2), (0, .ref v0), (1, .int v1)]) (st' := [.ref v0, .int 0, .ref u2, .int 0, .ref v0]) rfl ?_
    refine x_aN e rfl rfl (fun u4 e => ?_)
    refine wp_p (j := J_Arrays_copyOf) 1 (pc' := 25) (lv' := [(2, .ref u2), (0, .ref v0), (1, .int v1)]) (st' := [.int v1, .int u4, .int 0, .ref u2, .int 0, .ref v0]) rfl ?_
    refine x_mn rfl rfl ?_
    refine x_cp e rfl (.inr rfl) rfl (fun g5 e => ?_)
    refine wp_p (j := J_Arrays_copyOf) 1 (pc' := 32) (lv' := [(2, .ref u2), (0, .ref v0), (1, .int v1)]) (st' := [.ref u2]) rfl ?_
    cases e; exact wp_r rfl rfl rfl rfl rfl c
noncomputable def k_Bytes_add_44 (v0 : Nat) (v1 : Int32) (g : g_S) : Option g_S :=
  (rQ g 104 v0 1).bind fun u1 =>
  (rI g 104 v0 2).bind fun u2 =>
  (sB g u1 u2 ((Int32.toInt8 v1).toInt32)).bind fun g3 =>
  (rI g3 104 v0 2).bind fun u4 =>
  (wI g3 104 v0 2 (u4 + 1)).bind fun g5 =>
  some g5
set_option maxRecDepth 20000 in
theorem x_Bytes_add_44 {L : Nat} {xs : Nat → Int32} {Q : Option Value → ab_H → Prop} {v0 : Nat} {v1 : Int32} {g : g_S} {out : g_S} (e : k_Bytes_add_44 v0 v1 g = some out) (c : Q none (hp out)) : wp (ab_ext L xs) J_Bytes_add 44 [(0, .ref v0), (1, .int v1)] [] (hp g) Q := by
  unfold k_Bytes_add_44 at e
  refine wp_p (j := J_Bytes_add) 1 (pc' := 45) (lv' := [(0, .ref v0), (1, .int v1)]) (st' := [.ref v0]) rfl ?_
  refine x_gQ e rfl rfl fd_4_1 rfl (fun u1 e => ?_)
  refine wp_p (j := J_Bytes_add) 1 (pc' := 49) (lv' := [(0, .ref v0), (1, .int v1)]) (st' := [.ref v0, .ref u1]) rfl ?_
  refine x_gI e rfl rfl fd_4_2 rfl (fun u2 e => ?_)
  refine wp_p (j := J_Bytes_add) 2 (pc' := 54) (lv' := [(0, .ref v0), (1, .int v1)]) (st' := [.int ((Int32.toInt8 v1).toInt32), .int u2, .ref u1]) rfl ?_
  refine x_sB e rfl rfl (fun g3 e => ?_)
  refine wp_p (j := J_Bytes_add) 2 (pc' := 57) (lv' := [(0, .ref v0), (1, .int v1)]) (st' := [.ref v0, .ref v0]) rfl ?_
  refine x_gI e rfl rfl fd_4_2 rfl (fun u4 e => ?_)
  refine wp_p (j := J_Bytes_add) 2 (pc' := 62) (lv' := [(0, .ref v0), (1, .int v1)]) (st' := [.int (u4 + 1), .ref v0]) rfl ?_
  refine x_pI e rfl rfl fw_4_2 rfl (fun g5 e => ?_)
  cases e; exact wp_vret rfl rfl c
noncomputable def M_Bytes_add (v0 : Nat) (v1 : Int32) (g : g_S) : Option g_S :=
  (rI g 104 v0 2).bind fun u1 =>
  (rI g 104 v0 0).bind fun u2 =>
  if u1 < u2 then
    (rI g 104 v0 2).bind fun u3 =>
    (rQ g 104 v0 1).bind fun u4 =>
    (aN g u4).bind fun u5 =>
    if u3 = u5 then
      (rQ g 104 v0 1).bind fun u6 =>
      (rI g 104 v0 2).bind fun u7 =>
      c2 (M_Arrays_copyOf u6 ((2 * u7) + 16) g) fun u8 g9 =>
      (wR g9 104 v0 1 (some u8)).bind fun g10 =>
      k_Bytes_add_44 v0 v1 g10
    else
      k_Bytes_add_44 v0 v1 g
  else
    some g
set_option maxRecDepth 20000 in
theorem d_Bytes_add {L : Nat} {xs : Nat → Int32} {Q : Option Value → ab_H → Prop} {v0 : Nat} {v1 : Int32} {g : g_S} {out : g_S} (e : M_Bytes_add v0 v1 g = some out) (c : Q none (hp out)) : mw (ab_ext L xs) J_Bytes_add [.ref v0, .int v1] (hp g) Q := by
  unfold M_Bytes_add at e
  refine wp_p (j := J_Bytes_add) 1 (pc' := 1) (lv' := [(0, .ref v0), (1, .int v1)]) (st' := [.ref v0]) rfl ?_
  refine x_gI e rfl rfl fd_4_2 rfl (fun u1 e => ?_)
  refine wp_p (j := J_Bytes_add) 1 (pc' := 5) (lv' := [(0, .ref v0), (1, .int v1)]) (st' := [.ref v0, .int u1]) rfl ?_
  refine x_gI e rfl rfl fd_4_0 rfl (fun u2 e => ?_)
  refine x_lt e rfl (fun e => ?_) (fun e => ?_)
  · refine wp_p (j := J_Bytes_add) 1 (pc' := 13) (lv' := [(0, .ref v0), (1, .int v1)]) (st' := [.ref v0]) rfl ?_
    refine x_gI e rfl rfl fd_4_2 rfl (fun u3 e => ?_)
    refine wp_p (j := J_Bytes_add) 1 (pc' := 17) (lv' := [(0, .ref v0), (1, .int v1)]) (st' := [.ref v0, .int u3]) rfl ?_
    refine x_gQ e rfl rfl fd_4_1 rfl (fun u4 e => ?_)
    refine x_aN e rfl rfl (fun u5 e => ?_)
    refine x_ne e rfl (fun e => ?_) (fun e => ?_)
    · refine wp_p (j := J_Bytes_add) 2 (pc' := 26) (lv' := [(0, .ref v0), (1, .int v1)]) (st' := [.ref v0, .ref v0]) rfl ?_
      refine x_gQ e rfl rfl fd_4_1 rfl (fun u6 e => ?_)
      refine wp_p (j := J_Bytes_add) 2 (pc' := 31) (lv' := [(0, .ref v0), (1, .int v1)]) (st' := [.ref v0, .int 2, .ref u6, .ref v0]) rfl ?_
      refine x_gI e rfl rfl fd_4_2 rfl (fun u7 e => ?_)
      refine wp_p (j := J_Bytes_add) 3 (pc' := 38) (lv' := [(0, .ref v0), (1, .int v1)]) (st' := [.int ((2 * u7) + 16), .ref u6, .ref v0]) rfl ?_
      refine x_cs2 (As := [.ref u6, .int ((2 * u7) + 16)]) (rest := [.ref v0]) Value.ref e rfl rfl rfl rfl rfl (fun h => d_Arrays_copyOf h ⟨rfl, rfl⟩) (fun u8 g9 e => ?_)
      refine x_pR (r := (some u8)) e rfl rfl fd_4_1 rfl (fun g10 e => ?_)
      exact wp_lv (lv' := [(0, .ref v0), (1, .int v1)]) rfl ⟨rfl, rfl, trivial⟩ (x_Bytes_add_44 e c)
    · exact wp_lv (lv' := [(0, .ref v0), (1, .int v1)]) rfl ⟨rfl, rfl, trivial⟩ (x_Bytes_add_44 e c)
  · cases e; exact wp_vret rfl rfl c
def cL_Bytes_addText_2 (L : Nat) (xs : Nat → Int32) (Q : Option Value → ab_H → Prop) (v0 : Nat) (v1 : Nat) (out : (Int32 × g_S) ⊕ (g_S)) : Prop := match out with
  | .inl s => wp (ab_ext L xs) J_Bytes_addText 2 [(0, .ref v0), (1, .ref v1), (2, .int s.1)] [] (hp s.2) Q
  | .inr s => wp (ab_ext L xs) J_Bytes_addText 25 [] [] (hp s) Q
noncomputable def b_Bytes_addText_2 (v0 : Nat) (v1 : Nat) (v2 : Int32) (g : g_S) : Option ((Int32 × g_S) ⊕ (g_S)) :=
  (tN v1).bind fun u1 =>
  if v2 < u1 then
    (tC v1 v2).bind fun u2 =>
    (vc g 104 v0 (M_Bytes_add v0 u2 g)).bind fun g3 =>
    some (.inl (v2 + 1, g3))
  else
    some (.inr g)
set_option maxRecDepth 20000 in
theorem y_Bytes_addText_2 {L : Nat} {xs : Nat → Int32} {Q : Option Value → ab_H → Prop} {v0 : Nat} {v1 : Nat} {v2 : Int32} {g : g_S} {out : (Int32 × g_S) ⊕ (g_S)} (e : b_Bytes_addText_2 v0 v1 v2 g = some out) (c : cL_Bytes_addText_2 L xs Q v0 v1 out) : wp (ab_ext L xs) J_Bytes_addText 2 [(0, .ref v0), (1, .ref v1), (2, .int v2)] [] (hp g) Q := by
  unfold b_Bytes_addText_2 at e
  refine wp_p (j := J_Bytes_addText) 2 (pc' := 4) (lv' := [(0, .ref v0), (1, .ref v1), (2, .int v2)]) (st' := [.ref v1, .int v2]) rfl ?_
  refine x_tN e rfl rfl (fun u1 e => ?_)
  refine x_ge e rfl (fun e => ?_) (fun e => ?_)
  · refine wp_p (j := J_Bytes_addText) 3 (pc' := 13) (lv' := [(0, .ref v0), (1, .ref v1), (2, .int v2)]) (st' := [.int v2, .ref v1, .ref v0]) rfl ?_
    refine x_tC e rfl rfl (fun u2 e => ?_)
    refine x_cv0 (As := [.int u2]) (rest := []) e rfl rfl rfl rfl rfl rfl (fun h => d_Bytes_add h ⟨rfl, rfl⟩) (fun g3 e => ?_)
    refine wp_p (j := J_Bytes_addText) 2 (pc' := 2) (lv' := [(2, .int (v2 + 1)), (0, .ref v0), (1, .ref v1)]) (st' := []) rfl ?_
    cases e; exact wp_lv (lv' := [(0, .ref v0), (1, .ref v1), (2, .int (v2 + 1))]) rfl ⟨rfl, rfl, rfl, trivial⟩ c
  · cases e; exact wp_lv (lv' := []) rfl trivial c
noncomputable def L_Bytes_addText_2 (v0 : Nat) (v1 : Nat) (v2 : Int32) (g : g_S) : Option (g_S) := it (fun s : Int32 × g_S => b_Bytes_addText_2 v0 v1 s.1 s.2) (v2, g)
theorem l_Bytes_addText_2 {L : Nat} {xs : Nat → Int32} {Q : Option Value → ab_H → Prop} {v0 : Nat} {v1 : Nat} {v2 : Int32} {g : g_S} {r : g_S} (e : L_Bytes_addText_2 v0 v1 v2 g = some r) (c : cL_Bytes_addText_2 L xs Q v0 v1 (.inr r)) : wp (ab_ext L xs) J_Bytes_addText 2 [(0, .ref v0), (1, .ref v1), (2, .int v2)] [] (hp g) Q :=
  it_wp (P := fun s : Int32 × g_S => wp (ab_ext L xs) J_Bytes_addText 2 [(0, .ref v0), (1, .ref v1), (2, .int s.1)] [] (hp s.2) Q) (E := fun r => cL_Bytes_addText_2 L xs Q v0 v1 (.inr r)) (fun s out e c => y_Bytes_addText_2 e (by cases out <;> exact c)) e c
theorem L_Bytes_addText_2_eq (v0 : Nat) (v1 : Nat) (v2 : Int32) (g : g_S) : L_Bytes_addText_2 v0 v1 v2 g = itc (b_Bytes_addText_2 v0 v1 v2 g) (fun s => L_Bytes_addText_2 v0 v1 s.1 s.2) := it_eq2 (fun s : Int32 × g_S => b_Bytes_addText_2 v0 v1 s.1 s.2) (v2, g)
noncomputable def M_Bytes_addText (v0 : Nat) (v1 : Nat) (g : g_S) : Option g_S :=
  (L_Bytes_addText_2 v0 v1 0 g).bind <| fun g3 =>
  some g3
set_option maxRecDepth 20000 in
theorem d_Bytes_addText {L : Nat} {xs : Nat → Int32} {Q : Option Value → ab_H → Prop} {v0 : Nat} {v1 : Nat} {g : g_S} {out : g_S} (e : M_Bytes_addText v0 v1 g = some out) (c : Q none (hp out)) : mw (ab_ext L xs) J_Bytes_addText [.ref v0, .ref v1] (hp g) Q := by
  unfold M_Bytes_addText at e
  refine wp_p (j := J_Bytes_addText) 2 (pc' := 2) (lv' := [(2, .int 0), (0, .ref v0), (1, .ref v1)]) (st' := []) rfl ?_
  obtain ⟨g3, h2, e⟩ := bd e
  refine wp_lv (lv' := [(0, .ref v0), (1, .ref v1), (2, .int 0)]) rfl ⟨rfl, rfl, rfl, trivial⟩ ?_
  refine l_Bytes_addText_2 h2 ?_
  show wp (ab_ext L xs) J_Bytes_addText 25 [] [] (hp g3) Q
  cases e; exact wp_vret rfl rfl c
def cL_Bytes_stands_15 (L : Nat) (xs : Nat → Int32) (Q : Option Value → ab_H → Prop) (v0 : Nat) (v1 : Nat) (v2 : Int32) (g : g_S) (out : (Int32) ⊕ ((Unit) ⊕ (Unit))) : Prop := match out with
  | .inl s => wp (ab_ext L xs) J_Bytes_stands 15 [(0, .ref v0), (1, .ref v1), (2, .int v2), (4, .int s)] [] (hp g) Q
  | .inr (.inl s) => wp (ab_ext L xs) J_Bytes_stands 39 [] [] (hp g) Q
  | .inr (.inr s) => wp (ab_ext L xs) J_Bytes_stands 47 [] [] (hp g) Q
noncomputable def b_Bytes_stands_15 (v0 : Nat) (v1 : Nat) (v2 : Int32) (v4 : Int32) (g : g_S) : Option ((Int32) ⊕ ((Unit) ⊕ (Unit))) :=
  (tN v0).bind fun u1 =>
  if v4 < u1 then
    (aI g 1 v1 (v2 + v4)).bind fun u2 =>
    (tC v0 v4).bind fun u3 =>
    if u2 = u3 then
      some (.inl (v4 + 1))
    else
      some (.inr (.inl ()))
  else
    some (.inr (.inr ()))
set_option maxRecDepth 20000 in
theorem y_Bytes_stands_15 {L : Nat} {xs : Nat → Int32} {Q : Option Value → ab_H → Prop} {v0 : Nat} {v1 : Nat} {v2 : Int32} {v4 : Int32} {g : g_S} {out : (Int32) ⊕ ((Unit) ⊕ (Unit))} (e : b_Bytes_stands_15 v0 v1 v2 v4 g = some out) (c : cL_Bytes_stands_15 L xs Q v0 v1 v2 g out) : wp (ab_ext L xs) J_Bytes_stands 15 [(0, .ref v0), (1, .ref v1), (2, .int v2), (4, .int v4)] [] (hp g) Q := by
  unfold b_Bytes_stands_15 at e
  refine wp_p (j := J_Bytes_stands) 2 (pc' := 18) (lv' := [(0, .ref v0), (1, .ref v1), (2, .int v2), (4, .int v4)]) (st' := [.ref v0, .int v4]) rfl ?_
  refine x_tN e rfl rfl (fun u1 e => ?_)
  refine x_ge e rfl (fun e => ?_) (fun e => ?_)
  · refine wp_p (j := J_Bytes_stands) 4 (pc' := 29) (lv' := [(0, .ref v0), (1, .ref v1), (2, .int v2), (4, .int v4)]) (st' := [.int (v2 + v4), .ref v1]) rfl ?_
    refine x_aB e rfl (.inl rfl) rfl (fun u2 e => ?_)
    refine wp_p (j := J_Bytes_stands) 2 (pc' := 33) (lv' := [(0, .ref v0), (1, .ref v1), (2, .int v2), (4, .int v4)]) (st' := [.int v4, .ref v0, .int u2]) rfl ?_
    refine x_tC e rfl rfl (fun u3 e => ?_)
    refine x_eq e rfl (fun e => ?_) (fun e => ?_)
    · refine wp_p (j := J_Bytes_stands) 2 (pc' := 15) (lv' := [(4, .int (v4 + 1)), (0, .ref v0), (1, .ref v1), (2, .int v2)]) (st' := []) rfl ?_
      cases e; exact wp_lv (lv' := [(0, .ref v0), (1, .ref v1), (2, .int v2), (4, .int (v4 + 1))]) rfl ⟨rfl, rfl, rfl, rfl, trivial⟩ c
    · cases e; exact wp_lv (lv' := []) rfl trivial c
  · cases e; exact wp_lv (lv' := []) rfl trivial c
noncomputable def L_Bytes_stands_15 (v0 : Nat) (v1 : Nat) (v2 : Int32) (v4 : Int32) (g : g_S) : Option ((Unit) ⊕ (Unit)) := it (fun s : Int32 => b_Bytes_stands_15 v0 v1 v2 s g) (v4)
theorem l_Bytes_stands_15 {L : Nat} {xs : Nat → Int32} {Q : Option Value → ab_H → Prop} {v0 : Nat} {v1 : Nat} {v2 : Int32} {v4 : Int32} {g : g_S} {r : (Unit) ⊕ (Unit)} (e : L_Bytes_stands_15 v0 v1 v2 v4 g = some r) (c : cL_Bytes_stands_15 L xs Q v0 v1 v2 g (.inr r)) : wp (ab_ext L xs) J_Bytes_stands 15 [(0, .ref v0), (1, .ref v1), (2, .int v2), (4, .int v4)] [] (hp g) Q :=
  it_wp (P := fun s : Int32 => wp (ab_ext L xs) J_Bytes_stands 15 [(0, .ref v0), (1, .ref v1), (2, .int v2), (4, .int s)] [] (hp g) Q) (E := fun r => cL_Bytes_stands_15 L xs Q v0 v1 v2 g (.inr r)) (fun s out e c => y_Bytes_stands_15 e (by cases out <;> exact c)) e c
theorem L_Bytes_stands_15_eq (v0 : Nat) (v1 : Nat) (v2 : Int32) (v4 : Int32) (g : g_S) : L_Bytes_stands_15 v0 v1 v2 v4 g = itc (b_Bytes_stands_15 v0 v1 v2 v4 g) (fun s => L_Bytes_stands_15 v0 v1 v2 s g) := it_eq2 (fun s : Int32 => b_Bytes_stands_15 v0 v1 v2 s g) (v4)
noncomputable def M_Bytes_stands (v0 : Nat) (v1 : Nat) (v2 : Int32) (v3 : Int32) (g : g_S) : Option Int32 :=
  (tN v0).bind fun u1 =>
  if (v3 - v2) < u1 then
    some 0
  else
    (L_Bytes_stands_15 v0 v1 v2 0 g).bind <|
      us (fun _ =>
      some 0)
      (fun _ =>
      some 1)
set_option maxRecDepth 20000 in
theorem d_Bytes_stands {L : Nat} {xs : Nat → Int32} {Q : Option Value → ab_H → Prop} {v0 : Nat} {v1 : Nat} {v2 : Int32} {v3 : Int32} {g : g_S} {out : Int32} (e : M_Bytes_stands v0 v1 v2 v3 g = some out) (c : Q (some (.int out)) (hp g)) : mw (ab_ext L xs) J_Bytes_stands [.ref v0, .ref v1, .int v2, .int v3] (hp g) Q := by
  unfold M_Bytes_stands at e
  refine wp_p (j := J_Bytes_stands) 1 (pc' := 1) (lv' := [(0, .ref v0), (1, .ref v1), (2, .int v2), (3, .int v3)]) (st' := [.ref v0]) rfl ?_
  refine x_tN e rfl rfl (fun u1 e => ?_)
  refine wp_p (j := J_Bytes_stands) 3 (pc' := 7) (lv' := [(0, .ref v0), (1, .ref v1), (2, .int v2), (3, .int v3)]) (st' := [.int (v3 - v2), .int u1]) rfl ?_
  refine x_le e rfl (fun e => ?_) (fun e => ?_)
  · refine wp_p (j := J_Bytes_stands) 1 (pc' := 11) (lv' := [(0, .ref v0), (1, .ref v1), (2, .int v2), (3, .int v3)]) (st' := [.int 0]) rfl ?_
    cases e; exact wp_iret (ty := .boolean) rfl rfl (by decide) c
  · refine wp_p (j := J_Bytes_stands) 2 (pc' := 15) (lv' := [(4, .int 0), (0, .ref v0), (1, .ref v1), (2, .int v2), (3, .int v3)]) (st' := []) rfl ?_
    obtain ⟨s2, h3, e⟩ := bd e
    refine wp_lv (lv' := [(0, .ref v0), (1, .ref v1), (2, .int v2), (4, .int 0)]) rfl ⟨rfl, rfl, rfl, rfl, trivial⟩ ?_
    refine l_Bytes_stands_15 h3 ?_
    rcases s2 with _ | _
    · dsimp only [us] at e
      show wp (ab_ext L xs) J_Bytes_stands 39 [] [] (hp g) Q
      refine wp_p (j := J_Bytes_stands) 1 (pc' := 40) (lv' := []) (st' := [.int 0]) rfl ?_
      cases e; exact wp_iret (ty := .boolean) rfl rfl (by decide) c
    · dsimp only [us] at e
      show wp (ab_ext L xs) J_Bytes_stands 47 [] [] (hp g) Q
      refine wp_p (j := J_Bytes_stands) 1 (pc' := 48) (lv' := []) (st' := [.int 1]) rfl ?_
      cases e; exact wp_iret (ty := .boolean) rfl rfl (by decide) c
def cL_Bytes_nameEnd_2 (L : Nat) (xs : Nat → Int32) (Q : Option Value → ab_H → Prop) (v0 : Nat) (v1 : Int32) (v2 : Int32) (g : g_S) (out : (Int32) ⊕ ((Int32) ⊕ (Int32))) : Prop := match out with
  | .inl s => wp (ab_ext L xs) J_Bytes_nameEnd 2 [(0, .ref v0), (1, .int v1), (2, .int v2), (3, .int s)] [] (hp g) Q
  | .inr (.inl s) => wp (ab_ext L xs) J_Bytes_nameEnd 76 [(3, .int s)] [] (hp g) Q
  | .inr (.inr s) => wp (ab_ext L xs) J_Bytes_nameEnd 84 [(3, .int s)] [] (hp g) Q
noncomputable def k_Bytes_nameEnd_59 (v0 : Nat) (v1 : Int32) (v2 : Int32) (v3 : Int32) (v4 : Int32) (w0 : Int32) (g : g_S) : Option ((Int32) ⊕ ((Int32) ⊕ (Int32))) :=
  if v4 = 0 then
    if w0 = 0 then
      some (.inr (.inl v3))
    else
      if v3 = v1 then
        some (.inr (.inl v3))
      else
        some (.inl (v3 + 1))
  else
    some (.inl (v3 + 1))
set_option maxRecDepth 20000 in
theorem x_Bytes_nameEnd_59 {L : Nat} {xs : Nat → Int32} {Q : Option Value → ab_H → Prop} {v0 : Nat} {v1 : Int32} {v2 : Int32} {v3 : Int32} {v4 : Int32} {w0 : Int32} {g : g_S} {out : (Int32) ⊕ ((Int32) ⊕ (Int32))} (e : k_Bytes_nameEnd_59 v0 v1 v2 v3 v4 w0 g = some out) (c : cL_Bytes_nameEnd_2 L xs Q v0 v1 v2 g out) : wp (ab_ext L xs) J_Bytes_nameEnd 59 [(0, .ref v0), (1, .int v1), (2, .int v2), (3, .int v3), (4, .int v4)] [.int w0] (hp g) Q := by
  unfold k_Bytes_nameEnd_59 at e
  refine wp_p (j := J_Bytes_nameEnd) 2 (pc' := 63) (lv' := [(5, .int w0), (0, .ref v0), (1, .int v1), (2, .int v2), (3, .int v3), (4, .int v4)]) (st' := [.int v4]) rfl ?_
  refine z_ne e rfl (fun e => ?_) (fun e => ?_)
  · refine wp_p (j := J_Bytes_nameEnd) 1 (pc' := 68) (lv' := [(5, .int w0), (0, .ref v0), (1, .int v1), (2, .int v2), (3, .int v3), (4, .int v4)]) (st' := [.int w0]) rfl ?_
    refine z_eq e rfl (fun e => ?_) (fun e => ?_)
    · cases e; exact wp_lv (lv' := [(3, .int v3)]) rfl ⟨rfl, trivial⟩ c
    · refine wp_p (j := J_Bytes_nameEnd) 2 (pc' := 73) (lv' := [(5, .int w0), (0, .ref v0), (1, .int v1), (2, .int v2), (3, .int v3), (4, .int v4)]) (st' := [.int v1, .int v3]) rfl ?_
      refine x_ne e rfl (fun e => ?_) (fun e => ?_)
      · cases e; exact wp_lv (lv' := [(3, .int v3)]) rfl ⟨rfl, trivial⟩ c
      · refine wp_p (j := J_Bytes_nameEnd) 2 (pc' := 2) (lv' := [(3, .int (v3 + 1)), (5, .int w0), (0, .ref v0), (1, .int v1), (2, .int v2), (4, .int v4)]) (st' := []) rfl ?_
        cases e; exact wp_lv (lv' := [(0, .ref v0), (1, .int v1), (2, .int v2), (3, .int (v3 + 1))]) rfl ⟨rfl, rfl, rfl, rfl, trivial⟩ c
  · refine wp_p (j := J_Bytes_nameEnd) 2 (pc' := 2) (lv' := [(3, .int (v3 + 1)), (5, .int w0), (0, .ref v0), (1, .int v1), (2, .int v2), (4, .int v4)]) (st' := []) rfl ?_
    cases e; exact wp_lv (lv' := [(0, .ref v0), (1, .int v1), (2, .int v2), (3, .int (v3 + 1))]) rfl ⟨rfl, rfl, rfl, rfl, trivial⟩ c
noncomputable def k_Bytes_nameEnd_58 (v0 : Nat) (v1 : Int32) (v2 : Int32) (v3 : Int32) (v4 : Int32) (g : g_S) : Option ((Int32) ⊕ ((Int32) ⊕ (Int32))) :=
  k_Bytes_nameEnd_59 v0 v1 v2 v3 v4 0 g
set_option maxRecDepth 20000 in
theorem x_Bytes_nameEnd_58 {L : Nat} {xs : Nat → Int32} {Q : Option Value → ab_H → Prop} {v0 : Nat} {v1 : Int32} {v2 : Int32} {v3 : Int32} {v4 : Int32} {g : g_S} {out : (Int32) ⊕ ((Int32) ⊕ (Int32))} (e : k_Bytes_nameEnd_58 v0 v1 v2 v3 v4 g = some out) (c : cL_Bytes_nameEnd_2 L xs Q v0 v1 v2 g out) : wp (ab_ext L xs) J_Bytes_nameEnd 58 [(0, .ref v0), (1, .int v1), (2, .int v2), (3, .int v3), (4, .int v4)] [] (hp g) Q := by
  unfold k_Bytes_nameEnd_58 at e
  refine wp_p (j := J_Bytes_nameEnd) 1 (pc' := 59) (lv' := [(0, .ref v0), (1, .int v1), (2, .int v2), (3, .int v3), (4, .int v4)]) (st' := [.int 0]) rfl ?_
  exact wp_lv (lv' := [(0, .ref v0), (1, .int v1), (2, .int v2), (3, .int v3), (4, .int v4)]) rfl ⟨rfl, rfl, rfl, rfl, rfl, trivial⟩ (x_Bytes_nameEnd_59 e c)
noncomputable def k_Bytes_nameEnd_36 (v0 : Nat) (v1 : Int32) (v2 : Int32) (v3 : Int32) (w0 : Int32) (g : g_S) : Option ((Int32) ⊕ ((Int32) ⊕ (Int32))) :=
  (aI g 1 v0 v3).bind fun u1 =>
  if u1 < 48 then
    k_Bytes_nameEnd_58 v0 v1 v2 v3 w0 g
  else
    (aI g 1 v0 v3).bind fun u2 =>
    if 57 < u2 then
      k_Bytes_nameEnd_58 v0 v1 v2 v3 w0 g
    else
      k_Bytes_nameEnd_59 v0 v1 v2 v3 w0 1 g
set_option maxRecDepth 20000 in
theorem x_Bytes_nameEnd_36 {L : Nat} {xs : Nat → Int32} {Q : Option Value → ab_H → Prop} {v0 : Nat} {v1 : Int32} {v2 : Int32} {v3 : Int32} {w0 : Int32} {g : g_S} {out : (Int32) ⊕ ((Int32) ⊕ (Int32))} (e : k_Bytes_nameEnd_36 v0 v1 v2 v3 w0 g = some out) (c : cL_Bytes_nameEnd_2 L xs Q v0 v1 v2 g out) : wp (ab_ext L xs) J_Bytes_nameEnd 36 [(0, .ref v0), (1, .int v1), (2, .int v2), (3, .int v3)] [.int w0] (hp g) Q := by
  unfold k_Bytes_nameEnd_36 at e
  refine wp_p (j := J_Bytes_nameEnd) 3 (pc' := 40) (lv' := [(4, .int w0), (0, .ref v0), (1, .int v1), (2, .int v2), (3, .int v3)]) (st' := [.int v3, .ref v0]) rfl ?_
  refine x_aB e rfl (.inl rfl) rfl (fun u1 e => ?_)
  refine wp_p (j := J_Bytes_nameEnd) 1 (pc' := 43) (lv' := [(4, .int w0), (0, .ref v0), (1, .int v1), (2, .int v2), (3, .int v3)]) (st' := [.int 48, .int u1]) rfl ?_
  refine x_lt e rfl (fun e => ?_) (fun e => ?_)
  · exact wp_lv (lv' := [(0, .ref v0), (1, .int v1), (2, .int v2), (3, .int v3), (4, .int w0)]) rfl ⟨rfl, rfl, rfl, rfl, rfl, trivial⟩ (x_Bytes_nameEnd_58 e c)
  · refine wp_p (j := J_Bytes_nameEnd) 2 (pc' := 48) (lv' := [(4, .int w0), (0, .ref v0), (1, .int v1), (2, .int v2), (3, .int v3)]) (st' := [.int v3, .ref v0]) rfl ?_
    refine x_aB e rfl (.inl rfl) rfl (fun u2 e => ?_)
    refine wp_p (j := J_Bytes_nameEnd) 1 (pc' := 51) (lv' := [(4, .int w0), (0, .ref v0), (1, .int v1), (2, .int v2), (3, .int v3)]) (st' := [.int 57, .int u2]) rfl ?_
    refine x_gt e rfl (fun e => ?_) (fun e => ?_)
    · exact wp_lv (lv' := [(0, .ref v0), (1, .int v1), (2, .int v2), (3, .int v3), (4, .int w0)]) rfl ⟨rfl, rfl, rfl, rfl, rfl, trivial⟩ (x_Bytes_nameEnd_58 e c)
    · refine wp_p (j := J_Bytes_nameEnd) 2 (pc' := 59) (lv' := [(4, .int w0), (0, .ref v0), (1, .int v1), (2, .int v2), (3, .int v3)]) (st' := [.int 1]) rfl ?_
      exact wp_lv (lv' := [(0, .ref v0), (1, .int v1), (2, .int v2), (3, .int v3), (4, .int w0)]) rfl ⟨rfl, rfl, rfl, rfl, rfl, trivial⟩ (x_Bytes_nameEnd_59 e c)
noncomputable def k_Bytes_nameEnd_35 (v0 : Nat) (v1 : Int32) (v2 : Int32) (v3 : Int32) (g : g_S) : Option ((Int32) ⊕ ((Int32) ⊕ (Int32))) :=
  k_Bytes_nameEnd_36 v0 v1 v2 v3 0 g
set_option maxRecDepth 20000 in
theorem x_Bytes_nameEnd_35 {L : Nat} {xs : Nat → Int32} {Q : Option Value → ab_H → Prop} {v0 : Nat} {v1 : Int32} {v2 : Int32} {v3 : Int32} {g : g_S} {out : (Int32) ⊕ ((Int32) ⊕ (Int32))} (e : k_Bytes_nameEnd_35 v0 v1 v2 v3 g = some out) (c : cL_Bytes_nameEnd_2 L xs Q v0 v1 v2 g out) : wp (ab_ext L xs) J_Bytes_nameEnd 35 [(0, .ref v0), (1, .int v1), (2, .int v2), (3, .int v3)] [] (hp g) Q := by
  unfold k_Bytes_nameEnd_35 at e
  refine wp_p (j := J_Bytes_nameEnd) 1 (pc' := 36) (lv' := [(0, .ref v0), (1, .int v1), (2, .int v2), (3, .int v3)]) (st' := [.int 0]) rfl ?_
  exact wp_lv (lv' := [(0, .ref v0), (1, .int v1), (2, .int v2), (3, .int v3)]) rfl ⟨rfl, rfl, rfl, rfl, trivial⟩ (x_Bytes_nameEnd_36 e c)
noncomputable def b_Bytes_nameEnd_2 (v0 : Nat) (v1 : Int32) (v2 : Int32) (v3 : Int32) (g : g_S) : Option ((Int32) ⊕ ((Int32) ⊕ (Int32))) :=
  if v3 < v2 then
    if v3 < (v1 + 8) then
      (aI g 1 v0 v3).bind fun u1 =>
      if u1 < 97 then
        k_Bytes_nameEnd_35 v0 v1 v2 v3 g
      else
        (aI g 1 v0 v3).bind fun u2 =>
        if 122 < u2 then
          k_Bytes_nameEnd_35 v0 v1 v2 v3 g
        else
          k_Bytes_nameEnd_36 v0 v1 v2 v3 1 g
    else
      some (.inr (.inr v3))
  else
    some (.inr (.inr v3))
set_option maxRecDepth 20000 in
theorem y_Bytes_nameEnd_2 {L : Nat} {xs : Nat → Int32} {Q : Option Value → ab_H → Prop} {v0 : Nat} {v1 : Int32} {v2 : Int32} {v3 : Int32} {g : g_S} {out : (Int32) ⊕ ((Int32) ⊕ (Int32))} (e : b_Bytes_nameEnd_2 v0 v1 v2 v3 g = some out) (c : cL_Bytes_nameEnd_2 L xs Q v0 v1 v2 g out) : wp (ab_ext L xs) J_Bytes_nameEnd 2 [(0, .ref v0), (1, .int v1), (2, .int v2), (3, .int v3)] [] (hp g) Q := by
  unfold b_Bytes_nameEnd_2 at e
  refine wp_p (j := J_Bytes_nameEnd) 2 (pc' := 4) (lv' := [(0, .ref v0), (1, .int v1), (2, .int v2), (3, .int v3)]) (st' := [.int v2, .int v3]) rfl ?_
  refine x_ge e rfl (fun e => ?_) (fun e => ?_)
  · refine wp_p (j := J_Bytes_nameEnd) 4 (pc' := 12) (lv' := [(0, .ref v0), (1, .int v1), (2, .int v2), (3, .int v3)]) (st' := [.int (v1 + 8), .int v3]) rfl ?_
    refine x_ge e rfl (fun e => ?_) (fun e => ?_)
    · refine wp_p (j := J_Bytes_nameEnd) 2 (pc' := 17) (lv' := [(0, .ref v0), (1, .int v1), (2, .int v2), (3, .int v3)]) (st' := [.int v3, .ref v0]) rfl ?_
      refine x_aB e rfl (.inl rfl) rfl (fun u1 e => ?_)
      refine wp_p (j := J_Bytes_nameEnd) 1 (pc' := 20) (lv' := [(0, .ref v0), (1, .int v1), (2, .int v2), (3, .int v3)]) (st' := [.int 97, .int u1]) rfl ?_
      refine x_lt e rfl (fun e => ?_) (fun e => ?_)
      · exact wp_lv (lv' := [(0, .ref v0), (1, .int v1), (2, .int v2), (3, .int v3)]) rfl ⟨rfl, rfl, rfl, rfl, trivial⟩ (x_Bytes_nameEnd_35 e c)
      · refine wp_p (j := J_Bytes_nameEnd) 2 (pc' := 25) (lv' := [(0, .ref v0), (1, .int v1), (2, .int v2), (3, .int v3)]) (st' := [.int v3, .ref v0]) rfl ?_
        refine x_aB e rfl (.inl rfl) rfl (fun u2 e => ?_)
        refine wp_p (j := J_Bytes_nameEnd) 1 (pc' := 28) (lv' := [(0, .ref v0), (1, .int v1), (2, .int v2), (3, .int v3)]) (st' := [.int 122, .int u2]) rfl ?_
        refine x_gt e rfl (fun e => ?_) (fun e => ?_)
        · exact wp_lv (lv' := [(0, .ref v0), (1, .int v1), (2, .int v2), (3, .int v3)]) rfl ⟨rfl, rfl, rfl, rfl, trivial⟩ (x_Bytes_nameEnd_35 e c)
        · refine wp_p (j := J_Bytes_nameEnd) 2 (pc' := 36) (lv' := [(0, .ref v0), (1, .int v1), (2, .int v2), (3, .int v3)]) (st' := [.int 1]) rfl ?_
          exact wp_lv (lv' := [(0, .ref v0), (1, .int v1), (2, .int v2), (3, .int v3)]) rfl ⟨rfl, rfl, rfl, rfl, trivial⟩ (x_Bytes_nameEnd_36 e c)
    · cases e; exact wp_lv (lv' := [(3, .int v3)]) rfl ⟨rfl, trivial⟩ c
  · cases e; exact wp_lv (lv' := [(3, .int v3)]) rfl ⟨rfl, trivial⟩ c
noncomputable def L_Bytes_nameEnd_2 (v0 : Nat) (v1 : Int32) (v2 : Int32) (v3 : Int32) (g : g_S) : Option ((Int32) ⊕ (Int32)) := it (fun s : Int32 => b_Bytes_nameEnd_2 v0 v1 v2 s g) (v3)
theorem l_Bytes_nameEnd_2 {L : Nat} {xs : Nat → Int32} {Q : Option Value → ab_H → Prop} {v0 : Nat} {v1 : Int32} {v2 : Int32} {v3 : Int32} {g : g_S} {r : (Int32) ⊕ (Int32)} (e : L_Bytes_nameEnd_2 v0 v1 v2 v3 g = some r) (c : cL_Bytes_nameEnd_2 L xs Q v0 v1 v2 g (.inr r)) : wp (ab_ext L xs) J_Bytes_nameEnd 2 [(0, .ref v0), (1, .int v1), (2, .int v2), (3, .int v3)] [] (hp g) Q :=
  it_wp (P := fun s : Int32 => wp (ab_ext L xs) J_Bytes_nameEnd 2 [(0, .ref v0), (1, .int v1), (2, .int v2), (3, .int s)] [] (hp g) Q) (E := fun r => cL_Bytes_nameEnd_2 L xs Q v0 v1 v2 g (.inr r)) (fun s out e c => y_Bytes_nameEnd_2 e (by cases out <;> exact c)) e c
theorem L_Bytes_nameEnd_2_eq (v0 : Nat) (v1 : Int32) (v2 : Int32) (v3 : Int32) (g : g_S) : L_Bytes_nameEnd_2 v0 v1 v2 v3 g = itc (b_Bytes_nameEnd_2 v0 v1 v2 v3 g) (fun s => L_Bytes_nameEnd_2 v0 v1 v2 s g) := it_eq2 (fun s : Int32 => b_Bytes_nameEnd_2 v0 v1 v2 s g) (v3)
noncomputable def M_Bytes_nameEnd (v0 : Nat) (v1 : Int32) (v2 : Int32) (g : g_S) : Option Int32 :=
  (L_Bytes_nameEnd_2 v0 v1 v2 v1 g).bind <|
    us (fun u3 =>
    some u3)
    (fun u4 =>
    some u4)
set_option maxRecDepth 20000 in
theorem d_Bytes_nameEnd {L : Nat} {xs : Nat → Int32} {Q : Option Value → ab_H → Prop} {v0 : Nat} {v1 : Int32} {v2 : Int32} {g : g_S} {out : Int32} (e : M_Bytes_nameEnd v0 v1 v2 g = some out) (c : Q (some (.int out)) (hp g)) : mw (ab_ext L xs) J_Bytes_nameEnd [.ref v0, .int v1, .int v2] (hp g) Q := by
  unfold M_Bytes_nameEnd at e
  refine wp_p (j := J_Bytes_nameEnd) 2 (pc' := 2) (lv' := [(3, .int v1), (0, .ref v0), (1, .int v1), (2, .int v2)]) (st' := []) rfl ?_
  obtain ⟨s1, h2, e⟩ := bd e
  refine wp_lv (lv' := [(0, .ref v0), (1, .int v1), (2, .int v2), (3, .int v1)]) rfl ⟨rfl, rfl, rfl, rfl, trivial⟩ ?_
  refine l_Bytes_nameEnd_2 h2 ?_
  rcases s1 with u3 | u4
  · dsimp only [us] at e
    show wp (ab_ext L xs) J_Bytes_nameEnd 76 [(3, .int u3)] [] (hp g) Q
    refine wp_p (j := J_Bytes_nameEnd) 1 (pc' := 77) (lv' := [(3, .int u3)]) (st' := [.int u3]) rfl ?_
    cases e; exact wp_iret (ty := .int) rfl rfl rfl c
  · dsimp only [us] at e
    show wp (ab_ext L xs) J_Bytes_nameEnd 84 [(3, .int u4)] [] (hp g) Q
    refine wp_p (j := J_Bytes_nameEnd) 1 (pc' := 85) (lv' := [(3, .int u4)]) (st' := [.int u4]) rfl ?_
    cases e; exact wp_iret (ty := .int) rfl rfl rfl c
noncomputable def M_Bytes_isName (v0 : Nat) (v1 : Int32) (v2 : Int32) (g : g_S) : Option Int32 :=
  if v1 < v2 then
    (M_Bytes_nameEnd v0 v1 v2 g).bind fun u1 =>
    if u1 = v2 then
      some 1
    else
      some 0
  else
    some 0
set_option maxRecDepth 20000 in
theorem d_Bytes_isName {L : Nat} {xs : Nat → Int32} {Q : Option Value → ab_H → Prop} {v0 : Nat} {v1 : Int32} {v2 : Int32} {g : g_S} {out : Int32} (e : M_Bytes_isName v0 v1 v2 g = some out) (c : Q (some (.int out)) (hp g)) : mw (ab_ext L xs) J_Bytes_isName [.ref v0, .int v1, .int v2] (hp g) Q := by
  unfold M_Bytes_isName at e
  refine wp_p (j := J_Bytes_isName) 2 (pc' := 2) (lv' := [(0, .ref v0), (1, .int v1), (2, .int v2)]) (st' := [.int v2, .int v1]) rfl ?_
  refine x_ge e rfl (fun e => ?_) (fun e => ?_)
  · refine wp_p (j := J_Bytes_isName) 3 (pc' := 8) (lv' := [(0, .ref v0), (1, .int v1), (2, .int v2)]) (st' := [.int v2, .int v1, .ref v0]) rfl ?_
    refine x_cs1 (As := [.ref v0, .int v1, .int v2]) (rest := []) Value.int e rfl rfl rfl rfl rfl (fun h => d_Bytes_nameEnd h ⟨rfl, rfl⟩) (fun u1 e => ?_)
    refine wp_p (j := J_Bytes_isName) 1 (pc' := 12) (lv' := [(0, .ref v0), (1, .int v1), (2, .int v2)]) (st' := [.int v2, .int u1]) rfl ?_
    refine x_ne e rfl (fun e => ?_) (fun e => ?_)
    · refine wp_p (j := J_Bytes_isName) 2 (pc' := 20) (lv' := [(0, .ref v0), (1, .int v1), (2, .int v2)]) (st' := [.int 1]) rfl ?_
      cases e; exact wp_iret (ty := .boolean) rfl rfl (by decide) c
    · refine wp_p (j := J_Bytes_isName) 1 (pc' := 20) (lv' := [(0, .ref v0), (1, .int v1), (2, .int v2)]) (st' := [.int 0]) rfl ?_
      cases e; exact wp_iret (ty := .boolean) rfl rfl (by decide) c
  · refine wp_p (j := J_Bytes_isName) 1 (pc' := 20) (lv' := [(0, .ref v0), (1, .int v1), (2, .int v2)]) (st' := [.int 0]) rfl ?_
    cases e; exact wp_iret (ty := .boolean) rfl rfl (by decide) c
def cL_Bytes_pack_5 (L : Nat) (xs : Nat → Int32) (Q : Option Value → ab_H → Prop) (v0 : Nat) (v1 : Int32) (v2 : Int32) (g : g_S) (out : (Int64 × Int32) ⊕ (Int64)) : Prop := match out with
  | .inl s => wp (ab_ext L xs) J_Bytes_pack 5 [(0, .ref v0), (1, .int v1), (2, .int v2), (3, .long s.1), (5, .int s.2)] [] (hp g) Q
  | .inr s => wp (ab_ext L xs) J_Bytes_pack 37 [(3, .long s)] [] (hp g) Q
noncomputable def b_Bytes_pack_5 (v0 : Nat) (v1 : Int32) (v2 : Int32) (v3 : Int64) (v5 : Int32) (g : g_S) : Option ((Int64 × Int32) ⊕ (Int64)) :=
  if v5 < v2 then
    if v5 < (v1 + 8) then
      (aI g 1 v0 v5).bind fun u1 =>
      some (.inl ((v3 <<< ((8 : Int32).toInt64 &&& 63)) ||| (Int32.toInt64 u1), v5 + 1))
    else
      some (.inr v3)
  else
    some (.inr v3)
set_option maxRecDepth 20000 in
theorem y_Bytes_pack_5 {L : Nat} {xs : Nat → Int32} {Q : Option Value → ab_H → Prop} {v0 : Nat} {v1 : Int32} {v2 : Int32} {v3 : Int64} {v5 : Int32} {g : g_S} {out : (Int64 × Int32) ⊕ (Int64)} (e : b_Bytes_pack_5 v0 v1 v2 v3 v5 g = some out) (c : cL_Bytes_pack_5 L xs Q v0 v1 v2 g out) : wp (ab_ext L xs) J_Bytes_pack 5 [(0, .ref v0), (1, .int v1), (2, .int v2), (3, .long v3), (5, .int v5)] [] (hp g) Q := by
  unfold b_Bytes_pack_5 at e
  refine wp_p (j := J_Bytes_pack) 2 (pc' := 8) (lv' := [(0, .ref v0), (1, .int v1), (2, .int v2), (3, .long v3), (5, .int v5)]) (st' := [.int v2, .int v5]) rfl ?_
  refine x_ge e rfl (fun e => ?_) (fun e => ?_)
  · refine wp_p (j := J_Bytes_pack) 4 (pc' := 17) (lv' := [(0, .ref v0), (1, .int v1), (2, .int v2), (3, .long v3), (5, .int v5)]) (st' := [.int (v1 + 8), .int v5]) rfl ?_
    refine x_ge e rfl (fun e => ?_) (fun e => ?_)
    · refine wp_p (j := J_Bytes_pack) 5 (pc' := 27) (lv' := [(0, .ref v0), (1, .int v1), (2, .int v2), (3, .long v3), (5, .int v5)]) (st' := [.int v5, .ref v0, .long (v3 <<< ((8 : Int32).toInt64 &&& 63))]) rfl ?_
      refine x_aB e rfl (.inl rfl) rfl (fun u1 e => ?_)
      refine wp_p (j := J_Bytes_pack) 5 (pc' := 5) (lv' := [(5, .int (v5 + 1)), (3, .long ((v3 <<< ((8 : Int32).toInt64 &&& 63)) ||| (Int32.toInt64 u1))), (0, .ref v0), (1, .int v1), (2, .int v2)]) (st' := []) rfl ?_
      cases e; exact wp_lv (lv' := [(0, .ref v0), (1, .int v1), (2, .int v2), (3, .long ((v3 <<< ((8 : Int32).toInt64 &&& 63)) ||| (Int32.toInt64 u1))), (5, .int (v5 + 1))]) rfl ⟨rfl, rfl, rfl, rfl, rfl, trivial⟩ c
    · cases e; exact wp_lv (lv' := [(3, .long v3)]) rfl ⟨rfl, trivial⟩ c
  · cases e; exact wp_lv (lv' := [(3, .long v3)]) rfl ⟨rfl, trivial⟩ c
noncomputable def L_Bytes_pack_5 (v0 : Nat) (v1 : Int32) (v2 : Int32) (v3 : Int64) (v5 : Int32) (g : g_S) : Option (Int64) := it (fun s : Int64 × Int32 => b_Bytes_pack_5 v0 v1 v2 s.1 s.2 g) (v3, v5)
theorem l_Bytes_pack_5 {L : Nat} {xs : Nat → Int32} {Q : Option Value → ab_H → Prop} {v0 : Nat} {v1 : Int32} {v2 : Int32} {v3 : Int64} {v5 : Int32} {g : g_S} {r : Int64} (e : L_Bytes_pack_5 v0 v1 v2 v3 v5 g = some r) (c : cL_Bytes_pack_5 L xs Q v0 v1 v2 g (.inr r)) : wp (ab_ext L xs) J_Bytes_pack 5 [(0, .ref v0), (1, .int v1), (2, .int v2), (3, .long v3), (5, .int v5)] [] (hp g) Q :=
  it_wp (P := fun s : Int64 × Int32 => wp (ab_ext L xs) J_Bytes_pack 5 [(0, .ref v0), (1, .int v1), (2, .int v2), (3, .long s.1), (5, .int s.2)] [] (hp g) Q) (E := fun r => cL_Bytes_pack_5 L xs Q v0 v1 v2 g (.inr r)) (fun s out e c => y_Bytes_pack_5 e (by cases out <;> exact c)) e c
theorem L_Bytes_pack_5_eq (v0 : Nat) (v1 : Int32) (v2 : Int32) (v3 : Int64) (v5 : Int32) (g : g_S) : L_Bytes_pack_5 v0 v1 v2 v3 v5 g = itc (b_Bytes_pack_5 v0 v1 v2 v3 v5 g) (fun s => L_Bytes_pack_5 v0 v1 v2 s.1 s.2 g) := it_eq2 (fun s : Int64 × Int32 => b_Bytes_pack_5 v0 v1 v2 s.1 s.2 g) (v3, v5)
noncomputable def M_Bytes_pack (v0 : Nat) (v1 : Int32) (v2 : Int32) (g : g_S) : Option Int64 :=
  (L_Bytes_pack_5 v0 v1 v2 0 v1 g).bind <| fun u3 =>
  some u3
set_option maxRecDepth 20000 in
theorem d_Bytes_pack {L : Nat} {xs : Nat → Int32} {Q : Option Value → ab_H → Prop} {v0 : Nat} {v1 : Int32} {v2 : Int32} {g : g_S} {out : Int64} (e : M_Bytes_pack v0 v1 v2 g = some out) (c : Q (some (.long out)) (hp g)) : mw (ab_ext L xs) J_Bytes_pack [.ref v0, .int v1, .int v2] (hp g) Q := by
  unfold M_Bytes_pack at e
  refine wp_p (j := J_Bytes_pack) 4 (pc' := 5) (lv' := [(5, .int v1), (3, .long 0), (0, .ref v0), (1, .int v1), (2, .int v2)]) (st' := []) rfl ?_
  obtain ⟨u3, h2, e⟩ := bd e
  refine wp_lv (lv' := [(0, .ref v0), (1, .int v1), (2, .int v2), (3, .long 0), (5, .int v1)]) rfl ⟨rfl, rfl, rfl, rfl, rfl, trivial⟩ ?_
  refine l_Bytes_pack_5 h2 ?_
  show wp (ab_ext L xs) J_Bytes_pack 37 [(3, .long u3)] [] (hp g) Q
  refine wp_p (j := J_Bytes_pack) 1 (pc' := 38) (lv' := [(3, .long u3)]) (st' := [.long u3]) rfl ?_
  cases e; exact wp_lret rfl rfl c
noncomputable def M_Address_takeSite (v0 : Nat) (v1 : Nat) (v2 : Int32) (v3 : Int32) (g : g_S) : Option g_S :=
  (rQ g 101 v0 0).bind fun u1 =>
  (cp g 1 v1 v2 u1 0 (v3 - v2)).bind fun g2 =>
  (wI g2 101 v0 2 (v3 - v2)).bind fun g3 =>
  (rQ g3 101 v0 0).bind fun u4 =>
  (rI g3 101 v0 2).bind fun u5 =>
  (M_Bytes_pack u4 2 u5 g3).bind fun u6 =>
  (wL g3 101 v0 1 u6).bind fun g7 =>
  some g7
set_option maxRecDepth 20000 in
theorem d_Address_takeSite {L : Nat} {xs : Nat → Int32} {Q : Option Value → ab_H → Prop} {v0 : Nat} {v1 : Nat} {v2 : Int32} {v3 : Int32} {g : g_S} {out : g_S} (e : M_Address_takeSite v0 v1 v2 v3 g = some out) (c : Q none (hp out)) : mw (ab_ext L xs) J_Address_takeSite [.ref v0, .ref v1, .int v2, .int v3] (hp g) Q := by
  unfold M_Address_takeSite at e
  refine wp_p (j := J_Address_takeSite) 3 (pc' := 3) (lv' := [(0, .ref v0), (1, .ref v1), (2, .int v2), (3, .int v3)]) (st' := [.ref v0, .int v2, .ref v1]) rfl ?_
  refine x_gQ e rfl rfl fd_1_0 rfl (fun u1 e => ?_)
  refine wp_p (j := J_Address_takeSite) 4 (pc' := 10) (lv' := [(0, .ref v0), (1, .ref v1), (2, .int v2), (3, .int v3)]) (st' := [.int (v3 - v2), .int 0, .ref u1, .int v2, .ref v1]) rfl ?_
  refine x_cp e rfl (.inr rfl) rfl (fun g2 e => ?_)
  refine wp_p (j := J_Address_takeSite) 4 (pc' := 17) (lv' := [(0, .ref v0), (1, .ref v1), (2, .int v2), (3, .int v3)]) (st' := [.int (v3 - v2), .ref v0]) rfl ?_
  refine x_pI e rfl rfl fw_1_2 rfl (fun g3 e => ?_)
  refine wp_p (j := J_Address_takeSite) 2 (pc' := 22) (lv' := [(0, .ref v0), (1, .ref v1), (2, .int v2), (3, .int v3)]) (st' := [.ref v0, .ref v0]) rfl ?_
  refine x_gQ e rfl rfl fd_1_0 rfl (fun u4 e => ?_)
  refine wp_p (j := J_Address_takeSite) 2 (pc' := 27) (lv' := [(0, .ref v0), (1, .ref v1), (2, .int v2), (3, .int v3)]) (st' := [.ref v0, .int 2, .ref u4, .ref v0]) rfl ?_
  refine x_gI e rfl rfl fd_1_2 rfl (fun u5 e => ?_)
  refine x_cs1 (As := [.ref u4, .int 2, .int u5]) (rest := [.ref v0]) Value.long e rfl rfl rfl rfl rfl (fun h => d_Bytes_pack h ⟨rfl, rfl⟩) (fun u6 e => ?_)
  refine x_pL e rfl rfl fw_1_1 rfl (fun g7 e => ?_)
  cases e; exact wp_vret rfl rfl c
noncomputable def M_Address_takePath (v0 : Nat) (v1 : Nat) (v2 : Int32) (v3 : Int32) (g : g_S) : Option g_S :=
  (rQ g 101 v0 0).bind fun u1 =>
  (rI g 101 v0 2).bind fun u2 =>
  (cp g 1 v1 v2 u1 u2 (v3 - v2)).bind fun g3 =>
  (rI g3 101 v0 2).bind fun u4 =>
  (wI g3 101 v0 3 ((u4 + v3) - v2)).bind fun g5 =>
  (rI g5 101 v0 3).bind fun u6 =>
  (wI g5 101 v0 5 u6).bind fun g7 =>
  some g7
set_option maxRecDepth 20000 in
theorem d_Address_takePath {L : Nat} {xs : Nat → Int32} {Q : Option Value → ab_H → Prop} {v0 : Nat} {v1 : Nat} {v2 : Int32} {v3 : Int32} {g : g_S} {out : g_S} (e : M_Address_takePath v0 v1 v2 v3 g = some out) (c : Q none (hp out)) : mw (ab_ext L xs) J_Address_takePath [.ref v0, .ref v1, .int v2, .int v3] (hp g) Q := by
  unfold M_Address_takePath at e
  refine wp_p (j := J_Address_takePath) 3 (pc' := 3) (lv' := [(0, .ref v0), (1, .ref v1), (2, .int v2), (3, .int v3)]) (st' := [.ref v0, .int v2, .ref v1]) rfl ?_
  refine x_gQ e rfl rfl fd_1_0 rfl (fun u1 e => ?_)
  refine wp_p (j := J_Address_takePath) 1 (pc' := 7) (lv' := [(0, .ref v0), (1, .ref v1), (2, .int v2), (3, .int v3)]) (st' := [.ref v0, .ref u1, .int v2, .ref v1]) rfl ?_
  refine x_gI e rfl rfl fd_1_2 rfl (fun u2 e => ?_)
  refine wp_p (j := J_Address_takePath) 3 (pc' := 13) (lv' := [(0, .ref v0), (1, .ref v1), (2, .int v2), (3, .int v3)]) (st' := [.int (v3 - v2), .int u2, .ref u1, .int v2, .ref v1]) rfl ?_
  refine x_cp e rfl (.inr rfl) rfl (fun g3 e => ?_)
  refine wp_p (j := J_Address_takePath) 2 (pc' := 18) (lv' := [(0, .ref v0), (1, .ref v1), (2, .int v2), (3, .int v3)]) (st' := [.ref v0, .ref v0]) rfl ?_
  refine x_gI e rfl rfl fd_1_2 rfl (fun u4 e => ?_)
  refine wp_p (j := J_Address_takePath) 4 (pc' := 25) (lv' := [(0, .ref v0), (1, .ref v1), (2, .int v2), (3, .int v3)]) (st' := [.int ((u4 + v3) - v2), .ref v0]) rfl ?_
  refine x_pI e rfl rfl fw_1_3 rfl (fun g5 e => ?_)
  refine wp_p (j := J_Address_takePath) 2 (pc' := 30) (lv' := [(0, .ref v0), (1, .ref v1), (2, .int v2), (3, .int v3)]) (st' := [.ref v0, .ref v0]) rfl ?_
  refine x_gI e rfl rfl fd_1_3 rfl (fun u6 e => ?_)
  refine x_pI e rfl rfl fw_1_5 rfl (fun g7 e => ?_)
  cases e; exact wp_vret rfl rfl c
