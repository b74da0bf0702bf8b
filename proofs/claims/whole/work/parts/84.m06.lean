/-! methods as functions, group 6 -/
def cL_Layout_closeLine_247 (L : Nat) (xs : Nat → Int32) (Q : Option Value → ab_H → Prop) (v0 : Nat) (out : (g_S) ⊕ (g_S)) : Prop := match out with
  | .inl s => wp (ab_ext L xs) J_Layout_closeLine 247 [(0, .ref v0)] [] (hp s) Q
  | .inr s => wp (ab_ext L xs) J_Layout_closeLine 289 [(0, .ref v0)] [] (hp s) Q
noncomputable def b_Layout_closeLine_247 (v0 : Nat) (g : g_S) : Option ((g_S) ⊕ (g_S)) :=
  (rI g 105 v0 17).bind fun z1 =>
  (rI g 105 v0 18).bind fun z2 =>
  if z1 < z2 then
    (rQ g 105 v0 2).bind fun z3 =>
    (rQ g 105 v0 16).bind fun z4 =>
    (rI g 105 v0 17).bind fun z5 =>
    (aI g 0 z4 z5).bind fun z6 =>
    (aQ g 8 z3 z6).bind fun z7 =>
    (vc g 105 v0 (M_Layout_putFloat v0 z7 g)).bind fun g8 =>
    (rI g8 105 v0 17).bind fun z9 =>
    (wI g8 105 v0 17 (z9 + 1)).bind fun g10 =>
    some (.inl g10)
  else
    some (.inr g)
set_option maxRecDepth 20000 in
theorem y_Layout_closeLine_247 {L : Nat} {xs : Nat → Int32} {Q : Option Value → ab_H → Prop} {v0 : Nat} {g : g_S} {out : (g_S) ⊕ (g_S)} (e : b_Layout_closeLine_247 v0 g = some out) (c : cL_Layout_closeLine_247 L xs Q v0 out) : wp (ab_ext L xs) J_Layout_closeLine 247 [(0, .ref v0)] [] (hp g) Q := by
  unfold b_Layout_closeLine_247 at e
  refine wp_p (j := J_Layout_closeLine) 1 (pc' := 248) (lv' := [(0, .ref v0)]) (st' := [.ref v0]) rfl ?_
  refine x_gI e rfl rfl fd_5_17 rfl (fun z1 e => ?_)
  refine wp_p (j := J_Layout_closeLine) 1 (pc' := 252) (lv' := [(0, .ref v0)]) (st' := [.ref v0, .int z1]) rfl ?_
  refine x_gI e rfl rfl fd_5_18 rfl (fun z2 e => ?_)
  refine x_ge e rfl (fun e => ?_) (fun e => ?_)
  · refine wp_p (j := J_Layout_closeLine) 2 (pc' := 260) (lv' := [(0, .ref v0)]) (st' := [.ref v0, .ref v0]) rfl ?_
    refine x_gQ e rfl rfl fd_5_2 rfl (fun z3 e => ?_)
    refine wp_p (j := J_Layout_closeLine) 1 (pc' := 264) (lv' := [(0, .ref v0)]) (st' := [.ref v0, .ref z3, .ref v0]) rfl ?_
    refine x_gQ e rfl rfl fd_5_16 rfl (fun z4 e => ?_)
    refine wp_p (j := J_Layout_closeLine) 1 (pc' := 268) (lv' := [(0, .ref v0)]) (st' := [.ref v0, .ref z4, .ref z3, .ref v0]) rfl ?_
    refine x_gI e rfl rfl fd_5_17 rfl (fun z5 e => ?_)
    refine x_aI e rfl rfl (fun z6 e => ?_)
    refine x_aQ e rfl rfl rfl (fun z7 e => ?_)
    refine x_cv0 (As := [.ref z7]) (rest := []) e rfl rfl rfl rfl rfl rfl (fun h => d_Layout_putFloat h ⟨rfl, rfl⟩) (fun g8 e => ?_)
    refine wp_p (j := J_Layout_closeLine) 2 (pc' := 278) (lv' := [(0, .ref v0)]) (st' := [.ref v0, .ref v0]) rfl ?_
    refine x_gI e rfl rfl fd_5_17 rfl (fun z9 e => ?_)
    refine wp_p (j := J_Layout_closeLine) 2 (pc' := 283) (lv' := [(0, .ref v0)]) (st' := [.int (z9 + 1), .ref v0]) rfl ?_
    refine x_pI e rfl rfl fw_5_17 rfl (fun g10 e => ?_)
    refine wp_p (j := J_Layout_closeLine) 1 (pc' := 247) (lv' := [(0, .ref v0)]) (st' := []) rfl ?_
    have e := Option.some.inj e; subst e; exact wp_lv (lv' := [(0, .ref v0)]) rfl ⟨rfl, trivial⟩ c
  · have e := Option.some.inj e; subst e; exact wp_lv (lv' := [(0, .ref v0)]) rfl ⟨rfl, trivial⟩ c
noncomputable def L_Layout_closeLine_247 (v0 : Nat) (g : g_S) : Option (g_S) := it (fun s : g_S => b_Layout_closeLine_247 v0 s) (g)
theorem l_Layout_closeLine_247 {L : Nat} {xs : Nat → Int32} {Q : Option Value → ab_H → Prop} {v0 : Nat} {g : g_S} {r : g_S} (e : L_Layout_closeLine_247 v0 g = some r) (c : cL_Layout_closeLine_247 L xs Q v0 (.inr r)) : wp (ab_ext L xs) J_Layout_closeLine 247 [(0, .ref v0)] [] (hp g) Q :=
  it_wp (P := fun s : g_S => wp (ab_ext L xs) J_Layout_closeLine 247 [(0, .ref v0)] [] (hp s) Q) (E := fun r => cL_Layout_closeLine_247 L xs Q v0 (.inr r)) (fun s out e c => y_Layout_closeLine_247 e (by cases out <;> exact c)) e c
theorem L_Layout_closeLine_247_eq (v0 : Nat) (g : g_S) : L_Layout_closeLine_247 v0 g = itc (b_Layout_closeLine_247 v0 g) (fun s => L_Layout_closeLine_247 v0 s) := it_eq2 (fun s : g_S => b_Layout_closeLine_247 v0 s) (g)
def cL_Layout_closeLine_60 (L : Nat) (xs : Nat → Int32) (Q : Option Value → ab_H → Prop) (v0 : Nat) (v2 : Int32) (g : g_S) (out : (Int32 × Int32) ⊕ (Int32)) : Prop := match out with
  | .inl s => wp (ab_ext L xs) J_Layout_closeLine 60 [(0, .ref v0), (2, .int v2), (3, .int s.1), (4, .int s.2)] [] (hp g) Q
  | .inr s => wp (ab_ext L xs) J_Layout_closeLine 121 [(0, .ref v0), (2, .int v2), (3, .int s)] [] (hp g) Q
noncomputable def k_Layout_closeLine_111 (v0 : Nat) (v2 : Int32) (v4 : Int32) (w0 : Int32) (w1 : Int32) (g : g_S) : Option ((Int32 × Int32) ⊕ (Int32)) :=
  some (.inl (mx w1 w0, v4 + 1))
set_option maxRecDepth 20000 in
theorem x_Layout_closeLine_111 {L : Nat} {xs : Nat → Int32} {Q : Option Value → ab_H → Prop} {v0 : Nat} {v2 : Int32} {v4 : Int32} {w0 : Int32} {w1 : Int32} {g : g_S} {out : (Int32 × Int32) ⊕ (Int32)} (e : k_Layout_closeLine_111 v0 v2 v4 w0 w1 g = some out) (c : cL_Layout_closeLine_60 L xs Q v0 v2 g out) : wp (ab_ext L xs) J_Layout_closeLine 111 [(0, .ref v0), (2, .int v2), (4, .int v4)] [.int w0, .int w1] (hp g) Q := by
  unfold k_Layout_closeLine_111 at e
  refine x_mx rfl rfl ?_
  refine wp_p (j := J_Layout_closeLine) 3 (pc' := 60) (lv' := [(4, .int (v4 + 1)), (3, .int (mx w1 w0)), (0, .ref v0), (2, .int v2)]) (st' := []) rfl ?_
  have e := Option.some.inj e; subst e; exact wp_lv (lv' := [(0, .ref v0), (2, .int v2), (3, .int (mx w1 w0)), (4, .int (v4 + 1))]) rfl ⟨rfl, rfl, rfl, rfl, trivial⟩ c
noncomputable def b_Layout_closeLine_60 (v0 : Nat) (v2 : Int32) (v3 : Int32) (v4 : Int32) (g : g_S) : Option ((Int32 × Int32) ⊕ (Int32)) :=
  (rI g 105 v0 10).bind fun z1 =>
  if v4 < z1 then
    (rQ g 105 v0 9).bind fun z2 =>
    (aI g 0 z2 v4).bind fun z3 =>
    if z3 < 0 then
      (rQ g 105 v0 2).bind fun z4 =>
      (rQ g 105 v0 9).bind fun z5 =>
      (aI g 0 z5 v4).bind fun z6 =>
      (aQ g 8 z4 ((-1) - z6)).bind fun z7 =>
      (rI g 103 z7 5).bind fun z8 =>
      k_Layout_closeLine_111 v0 v2 v4 z8 v3 g
    else
      (rQ g 105 v0 9).bind fun z9 =>
      (aI g 0 z9 v4).bind fun z10 =>
      (vc g 105 v0 (M_Layout_wordHeight v0 z10 g)).bind fun z11 =>
      k_Layout_closeLine_111 v0 v2 v4 z11 v3 g
  else
    some (.inr v3)
set_option maxRecDepth 20000 in
theorem y_Layout_closeLine_60 {L : Nat} {xs : Nat → Int32} {Q : Option Value → ab_H → Prop} {v0 : Nat} {v2 : Int32} {v3 : Int32} {v4 : Int32} {g : g_S} {out : (Int32 × Int32) ⊕ (Int32)} (e : b_Layout_closeLine_60 v0 v2 v3 v4 g = some out) (c : cL_Layout_closeLine_60 L xs Q v0 v2 g out) : wp (ab_ext L xs) J_Layout_closeLine 60 [(0, .ref v0), (2, .int v2), (3, .int v3), (4, .int v4)] [] (hp g) Q := by
  unfold b_Layout_closeLine_60 at e
  refine wp_p (j := J_Layout_closeLine) 2 (pc' := 63) (lv' := [(0, .ref v0), (2, .int v2), (3, .int v3), (4, .int v4)]) (st' := [.ref v0, .int v4]) rfl ?_
  refine x_gI e rfl rfl fd_5_10 rfl (fun z1 e => ?_)
  refine x_ge e rfl (fun e => ?_) (fun e => ?_)
  · refine wp_p (j := J_Layout_closeLine) 2 (pc' := 71) (lv' := [(0, .ref v0), (2, .int v2), (3, .int v3), (4, .int v4)]) (st' := [.ref v0, .int v3]) rfl ?_
    refine x_gQ e rfl rfl fd_5_9 rfl (fun z2 e => ?_)
    refine wp_p (j := J_Layout_closeLine) 1 (pc' := 76) (lv' := [(0, .ref v0), (2, .int v2), (3, .int v3), (4, .int v4)]) (st' := [.int v4, .ref z2, .int v3]) rfl ?_
    refine x_aI e rfl rfl (fun z3 e => ?_)
    refine z_ge e rfl (fun e => ?_) (fun e => ?_)
    · refine wp_p (j := J_Layout_closeLine) 1 (pc' := 81) (lv' := [(0, .ref v0), (2, .int v2), (3, .int v3), (4, .int v4)]) (st' := [.ref v0, .int v3]) rfl ?_
      refine x_gQ e rfl rfl fd_5_2 rfl (fun z4 e => ?_)
      refine wp_p (j := J_Layout_closeLine) 2 (pc' := 86) (lv' := [(0, .ref v0), (2, .int v2), (3, .int v3), (4, .int v4)]) (st' := [.ref v0, .int (-1), .ref z4, .int v3]) rfl ?_
      refine x_gQ e rfl rfl fd_5_9 rfl (fun z5 e => ?_)
      refine wp_p (j := J_Layout_closeLine) 1 (pc' := 91) (lv' := [(0, .ref v0), (2, .int v2), (3, .int v3), (4, .int v4)]) (st' := [.int v4, .ref z5, .int (-1), .ref z4, .int v3]) rfl ?_
      refine x_aI e rfl rfl (fun z6 e => ?_)
      refine wp_p (j := J_Layout_closeLine) 1 (pc' := 93) (lv' := [(0, .ref v0), (2, .int v2), (3, .int v3), (4, .int v4)]) (st' := [.int ((-1) - z6), .ref z4, .int v3]) rfl ?_
      refine x_aQ e rfl rfl rfl (fun z7 e => ?_)
      refine x_gI e rfl rfl fd_3_5 rfl (fun z8 e => ?_)
      refine wp_p (j := J_Layout_closeLine) 1 (pc' := 111) (lv' := [(0, .ref v0), (2, .int v2), (3, .int v3), (4, .int v4)]) (st' := [.int z8, .int v3]) rfl ?_
      exact wp_lv (lv' := [(0, .ref v0), (2, .int v2), (4, .int v4)]) rfl ⟨rfl, rfl, rfl, trivial⟩ (x_Layout_closeLine_111 e c)
    · refine wp_p (j := J_Layout_closeLine) 2 (pc' := 102) (lv' := [(0, .ref v0), (2, .int v2), (3, .int v3), (4, .int v4)]) (st' := [.ref v0, .ref v0, .int v3]) rfl ?_
      refine x_gQ e rfl rfl fd_5_9 rfl (fun z9 e => ?_)
      refine wp_p (j := J_Layout_closeLine) 1 (pc' := 107) (lv' := [(0, .ref v0), (2, .int v2), (3, .int v3), (4, .int v4)]) (st' := [.int v4, .ref z9, .ref v0, .int v3]) rfl ?_
      refine x_aI e rfl rfl (fun z10 e => ?_)
      refine x_cv1 (As := [.int z10]) (rest := [.int v3]) Value.int e rfl rfl rfl rfl rfl rfl (fun h => d_Layout_wordHeight h ⟨rfl, rfl⟩) (fun z11 e => ?_)
      exact wp_lv (lv' := [(0, .ref v0), (2, .int v2), (4, .int v4)]) rfl ⟨rfl, rfl, rfl, trivial⟩ (x_Layout_closeLine_111 e c)
  · have e := Option.some.inj e; subst e; exact wp_lv (lv' := [(0, .ref v0), (2, .int v2), (3, .int v3)]) rfl ⟨rfl, rfl, rfl, trivial⟩ c
noncomputable def L_Layout_closeLine_60 (v0 : Nat) (v2 : Int32) (v3 : Int32) (v4 : Int32) (g : g_S) : Option (Int32) := it (fun s : Int32 × Int32 => b_Layout_closeLine_60 v0 v2 s.1 s.2 g) (v3, v4)
theorem l_Layout_closeLine_60 {L : Nat} {xs : Nat → Int32} {Q : Option Value → ab_H → Prop} {v0 : Nat} {v2 : Int32} {v3 : Int32} {v4 : Int32} {g : g_S} {r : Int32} (e : L_Layout_closeLine_60 v0 v2 v3 v4 g = some r) (c : cL_Layout_closeLine_60 L xs Q v0 v2 g (.inr r)) : wp (ab_ext L xs) J_Layout_closeLine 60 [(0, .ref v0), (2, .int v2), (3, .int v3), (4, .int v4)] [] (hp g) Q :=
  it_wp (P := fun s : Int32 × Int32 => wp (ab_ext L xs) J_Layout_closeLine 60 [(0, .ref v0), (2, .int v2), (3, .int s.1), (4, .int s.2)] [] (hp g) Q) (E := fun r => cL_Layout_closeLine_60 L xs Q v0 v2 g (.inr r)) (fun s out e c => y_Layout_closeLine_60 e (by cases out <;> exact c)) e c
theorem L_Layout_closeLine_60_eq (v0 : Nat) (v2 : Int32) (v3 : Int32) (v4 : Int32) (g : g_S) : L_Layout_closeLine_60 v0 v2 v3 v4 g = itc (b_Layout_closeLine_60 v0 v2 v3 v4 g) (fun s => L_Layout_closeLine_60 v0 v2 s.1 s.2 g) := it_eq2 (fun s : Int32 × Int32 => b_Layout_closeLine_60 v0 v2 s.1 s.2 g) (v3, v4)
def cL_Layout_closeLine_134 (L : Nat) (xs : Nat → Int32) (Q : Option Value → ab_H → Prop) (v0 : Nat) (v2 : Int32) (out : (Int32 × g_S) ⊕ (g_S)) : Prop := match out with
  | .inl s => wp (ab_ext L xs) J_Layout_closeLine 134 [(0, .ref v0), (2, .int v2), (4, .int s.1)] [] (hp s.2) Q
  | .inr s => wp (ab_ext L xs) J_Layout_closeLine 242 [(0, .ref v0)] [] (hp s) Q
noncomputable def b_Layout_closeLine_134 (v0 : Nat) (v2 : Int32) (v4 : Int32) (g : g_S) : Option ((Int32 × g_S) ⊕ (g_S)) :=
  (rI g 105 v0 10).bind fun z1 =>
  if v4 < z1 then
    (rQ g 105 v0 9).bind fun z2 =>
    (aI g 0 z2 v4).bind fun z3 =>
    if z3 < 0 then
      (rQ g 105 v0 2).bind fun z4 =>
      (aQ g 8 z4 ((-1) - z3)).bind fun z5 =>
      (rI g 103 z5 2).bind fun z6 =>
      (wI g 103 z5 2 (z6 + v2)).bind fun g7 =>
      (rI g7 105 v0 11).bind fun z8 =>
      (rI g7 103 z5 5).bind fun z9 =>
      (wI g7 103 z5 3 (z8 - z9)).bind fun g10 =>
      some (.inl (v4 + 1, g10))
    else
      (rQ g 105 v0 5).bind fun z11 =>
      (aI g 0 z11 ((z3 * 6) + 3)).bind fun z12 =>
      (sI g z11 ((z3 * 6) + 3) (z12 + v2)).bind fun g13 =>
      (rQ g13 105 v0 5).bind fun z14 =>
      (rI g13 105 v0 11).bind fun z15 =>
      (vc g13 105 v0 (M_Layout_wordHeight v0 z3 g13)).bind fun z16 =>
      (sI g13 z14 ((z3 * 6) + 4) (z15 - z16)).bind fun g17 =>
      some (.inl (v4 + 1, g17))
  else
    some (.inr g)
set_option maxRecDepth 20000 in
theorem y_Layout_closeLine_134 {L : Nat} {xs : Nat → Int32} {Q : Option Value → ab_H → Prop} {v0 : Nat} {v2 : Int32} {v4 : Int32} {g : g_S} {out : (Int32 × g_S) ⊕ (g_S)} (e : b_Layout_closeLine_134 v0 v2 v4 g = some out) (c : cL_Layout_closeLine_134 L xs Q v0 v2 out) : wp (ab_ext L xs) J_Layout_closeLine 134 [(0, .ref v0), (2, .int v2), (4, .int v4)] [] (hp g) Q := by
  unfold b_Layout_closeLine_134 at e
  refine wp_p (j := J_Layout_closeLine) 2 (pc' := 137) (lv' := [(0, .ref v0), (2, .int v2), (4, .int v4)]) (st' := [.ref v0, .int v4]) rfl ?_
  refine x_gI e rfl rfl fd_5_10 rfl (fun z1 e => ?_)
  refine x_ge e rfl (fun e => ?_) (fun e => ?_)
  · refine wp_p (j := J_Layout_closeLine) 1 (pc' := 144) (lv' := [(0, .ref v0), (2, .int v2), (4, .int v4)]) (st' := [.ref v0]) rfl ?_
    refine x_gQ e rfl rfl fd_5_9 rfl (fun z2 e => ?_)
    refine wp_p (j := J_Layout_closeLine) 1 (pc' := 149) (lv' := [(0, .ref v0), (2, .int v2), (4, .int v4)]) (st' := [.int v4, .ref z2]) rfl ?_
    refine x_aI e rfl rfl (fun z3 e => ?_)
    refine wp_p (j := J_Layout_closeLine) 2 (pc' := 154) (lv' := [(5, .int z3), (0, .ref v0), (2, .int v2), (4, .int v4)]) (st' := [.int z3]) rfl ?_
    refine z_ge e rfl (fun e => ?_) (fun e => ?_)
    · refine wp_p (j := J_Layout_closeLine) 1 (pc' := 158) (lv' := [(5, .int z3), (0, .ref v0), (2, .int v2), (4, .int v4)]) (st' := [.ref v0]) rfl ?_
      refine x_gQ e rfl rfl fd_5_2 rfl (fun z4 e => ?_)
      refine wp_p (j := J_Layout_closeLine) 3 (pc' := 165) (lv' := [(5, .int z3), (0, .ref v0), (2, .int v2), (4, .int v4)]) (st' := [.int ((-1) - z3), .ref z4]) rfl ?_
      refine x_aQ e rfl rfl rfl (fun z5 e => ?_)
      refine wp_p (j := J_Layout_closeLine) 3 (pc' := 171) (lv' := [(6, .ref z5), (5, .int z3), (0, .ref v0), (2, .int v2), (4, .int v4)]) (st' := [.ref z5, .ref z5]) rfl ?_
      refine x_gI e rfl rfl fd_3_2 rfl (fun z6 e => ?_)
      refine wp_p (j := J_Layout_closeLine) 2 (pc' := 176) (lv' := [(6, .ref z5), (5, .int z3), (0, .ref v0), (2, .int v2), (4, .int v4)]) (st' := [.int (z6 + v2), .ref z5]) rfl ?_
      refine x_pI e rfl rfl fw_3_2 rfl (fun g7 e => ?_)
      refine wp_p (j := J_Layout_closeLine) 2 (pc' := 182) (lv' := [(6, .ref z5), (5, .int z3), (0, .ref v0), (2, .int v2), (4, .int v4)]) (st' := [.ref v0, .ref z5]) rfl ?_
      refine x_gI e rfl rfl fd_5_11 rfl (fun z8 e => ?_)
      refine wp_p (j := J_Layout_closeLine) 1 (pc' := 187) (lv' := [(6, .ref z5), (5, .int z3), (0, .ref v0), (2, .int v2), (4, .int v4)]) (st' := [.ref z5, .int z8, .ref z5]) rfl ?_
      refine x_gI e rfl rfl fd_3_5 rfl (fun z9 e => ?_)
      refine wp_p (j := J_Layout_closeLine) 1 (pc' := 191) (lv' := [(6, .ref z5), (5, .int z3), (0, .ref v0), (2, .int v2), (4, .int v4)]) (st' := [.int (z8 - z9), .ref z5]) rfl ?_
      refine x_pI e rfl rfl fw_3_3 rfl (fun g10 e => ?_)
      refine wp_p (j := J_Layout_closeLine) 3 (pc' := 134) (lv' := [(4, .int (v4 + 1)), (6, .ref z5), (5, .int z3), (0, .ref v0), (2, .int v2)]) (st' := []) rfl ?_
      have e := Option.some.inj e; subst e; exact wp_lv (lv' := [(0, .ref v0), (2, .int v2), (4, .int (v4 + 1))]) rfl ⟨rfl, rfl, rfl, trivial⟩ c
    · refine wp_p (j := J_Layout_closeLine) 1 (pc' := 198) (lv' := [(5, .int z3), (0, .ref v0), (2, .int v2), (4, .int v4)]) (st' := [.ref v0]) rfl ?_
      refine x_gQ e rfl rfl fd_5_5 rfl (fun z11 e => ?_)
      refine wp_p (j := J_Layout_closeLine) 6 (pc' := 209) (lv' := [(5, .int z3), (0, .ref v0), (2, .int v2), (4, .int v4)]) (st' := [.int ((z3 * 6) + 3), .ref z11, .int ((z3 * 6) + 3), .ref z11]) rfl ?_
      refine x_aI e rfl rfl (fun z12 e => ?_)
      refine wp_p (j := J_Layout_closeLine) 2 (pc' := 212) (lv' := [(5, .int z3), (0, .ref v0), (2, .int v2), (4, .int v4)]) (st' := [.int (z12 + v2), .int ((z3 * 6) + 3), .ref z11]) rfl ?_
      refine x_sI e rfl rfl (fun g13 e => ?_)
      refine wp_p (j := J_Layout_closeLine) 1 (pc' := 214) (lv' := [(5, .int z3), (0, .ref v0), (2, .int v2), (4, .int v4)]) (st' := [.ref v0]) rfl ?_
      refine x_gQ e rfl rfl fd_5_5 rfl (fun z14 e => ?_)
      refine wp_p (j := J_Layout_closeLine) 6 (pc' := 225) (lv' := [(5, .int z3), (0, .ref v0), (2, .int v2), (4, .int v4)]) (st' := [.ref v0, .int ((z3 * 6) + 4), .ref z14]) rfl ?_
      refine x_gI e rfl rfl fd_5_11 rfl (fun z15 e => ?_)
      refine wp_p (j := J_Layout_closeLine) 2 (pc' := 231) (lv' := [(5, .int z3), (0, .ref v0), (2, .int v2), (4, .int v4)]) (st' := [.int z3, .ref v0, .int z15, .int ((z3 * 6) + 4), .ref z14]) rfl ?_
      refine x_cv1 (As := [.int z3]) (rest := [.int z15, .int ((z3 * 6) + 4), .ref z14]) Value.int e rfl rfl rfl rfl rfl rfl (fun h => d_Layout_wordHeight h ⟨rfl, rfl⟩) (fun z16 e => ?_)
      refine wp_p (j := J_Layout_closeLine) 1 (pc' := 235) (lv' := [(5, .int z3), (0, .ref v0), (2, .int v2), (4, .int v4)]) (st' := [.int (z15 - z16), .int ((z3 * 6) + 4), .ref z14]) rfl ?_
      refine x_sI e rfl rfl (fun g17 e => ?_)
      refine wp_p (j := J_Layout_closeLine) 2 (pc' := 134) (lv' := [(4, .int (v4 + 1)), (5, .int z3), (0, .ref v0), (2, .int v2)]) (st' := []) rfl ?_
      have e := Option.some.inj e; subst e; exact wp_lv (lv' := [(0, .ref v0), (2, .int v2), (4, .int (v4 + 1))]) rfl ⟨rfl, rfl, rfl, trivial⟩ c
  · have e := Option.some.inj e; subst e; exact wp_lv (lv' := [(0, .ref v0)]) rfl ⟨rfl, trivial⟩ c
noncomputable def L_Layout_closeLine_134 (v0 : Nat) (v2 : Int32) (v4 : Int32) (g : g_S) : Option (g_S) := it (fun s : Int32 × g_S => b_Layout_closeLine_134 v0 v2 s.1 s.2) (v4, g)
theorem l_Layout_closeLine_134 {L : Nat} {xs : Nat → Int32} {Q : Option Value → ab_H → Prop} {v0 : Nat} {v2 : Int32} {v4 : Int32} {g : g_S} {r : g_S} (e : L_Layout_closeLine_134 v0 v2 v4 g = some r) (c : cL_Layout_closeLine_134 L xs Q v0 v2 (.inr r)) : wp (ab_ext L xs) J_Layout_closeLine 134 [(0, .ref v0), (2, .int v2), (4, .int v4)] [] (hp g) Q :=
  it_wp (P := fun s : Int32 × g_S => wp (ab_ext L xs) J_Layout_closeLine 134 [(0, .ref v0), (2, .int v2), (4, .int s.1)] [] (hp s.2) Q) (E := fun r => cL_Layout_closeLine_134 L xs Q v0 v2 (.inr r)) (fun s out e c => y_Layout_closeLine_134 e (by cases out <;> exact c)) e c
theorem L_Layout_closeLine_134_eq (v0 : Nat) (v2 : Int32) (v4 : Int32) (g : g_S) : L_Layout_closeLine_134 v0 v2 v4 g = itc (b_Layout_closeLine_134 v0 v2 v4 g) (fun s => L_Layout_closeLine_134 v0 v2 s.1 s.2) := it_eq2 (fun s : Int32 × g_S => b_Layout_closeLine_134 v0 v2 s.1 s.2) (v4, g)
noncomputable def k_Layout_closeLine_54 (v0 : Nat) (w0 : Int32) (g : g_S) : Option g_S :=
  (L_Layout_closeLine_60 v0 w0 0 0 g).bind <| fun z3 =>
  (rI g 105 v0 11).bind fun z4 =>
  (wI g 105 v0 11 (z4 + z3)).bind fun g5 =>
  (L_Layout_closeLine_134 v0 w0 0 g5).bind <| fun g8 =>
  (wI g8 105 v0 10 0).bind fun g9 =>
  (L_Layout_closeLine_247 v0 g9).bind <| fun g12 =>
  (rI g12 105 v0 11).bind fun z13 =>
  (vc g12 105 v0 (M_Layout_openAt v0 z13 g12)).bind fun g14 =>
  some g14
set_option maxRecDepth 20000 in
theorem x_Layout_closeLine_54 {L : Nat} {xs : Nat → Int32} {Q : Option Value → ab_H → Prop} {v0 : Nat} {w0 : Int32} {g : g_S} {out : g_S} (e : k_Layout_closeLine_54 v0 w0 g = some out) (c : Q none (hp out)) : wp (ab_ext L xs) J_Layout_closeLine 54 [(0, .ref v0)] [.int w0] (hp g) Q := by
  unfold k_Layout_closeLine_54 at e
  refine wp_p (j := J_Layout_closeLine) 5 (pc' := 60) (lv' := [(4, .int 0), (3, .int 0), (2, .int w0), (0, .ref v0)]) (st' := []) rfl ?_
  obtain ⟨z3, h2, e⟩ := bd e
  refine wp_lv (lv' := [(0, .ref v0), (2, .int w0), (3, .int 0), (4, .int 0)]) rfl ⟨rfl, rfl, rfl, rfl, trivial⟩ ?_
  refine l_Layout_closeLine_60 h2 ?_
  show wp (ab_ext L xs) J_Layout_closeLine 121 [(0, .ref v0), (2, .int w0), (3, .int z3)] [] (hp g) Q
  refine wp_p (j := J_Layout_closeLine) 2 (pc' := 123) (lv' := [(0, .ref v0), (2, .int w0), (3, .int z3)]) (st' := [.ref v0, .ref v0]) rfl ?_
  refine x_gI e rfl rfl fd_5_11 rfl (fun z4 e => ?_)
  refine wp_p (j := J_Layout_closeLine) 2 (pc' := 128) (lv' := [(0, .ref v0), (2, .int w0), (3, .int z3)]) (st' := [.int (z4 + z3), .ref v0]) rfl ?_
  refine x_pI e rfl rfl fw_5_11 rfl (fun g5 e => ?_)
  refine wp_p (j := J_Layout_closeLine) 2 (pc' := 134) (lv' := [(4, .int 0), (0, .ref v0), (2, .int w0), (3, .int z3)]) (st' := []) rfl ?_
  obtain ⟨g8, h7, e⟩ := bd e
  refine wp_lv (lv' := [(0, .ref v0), (2, .int w0), (4, .int 0)]) rfl ⟨rfl, rfl, rfl, trivial⟩ ?_
  refine l_Layout_closeLine_134 h7 ?_
  show wp (ab_ext L xs) J_Layout_closeLine 242 [(0, .ref v0)] [] (hp g8) Q
  refine wp_p (j := J_Layout_closeLine) 2 (pc' := 244) (lv' := [(0, .ref v0)]) (st' := [.int 0, .ref v0]) rfl ?_
  refine x_pI e rfl rfl fw_5_10 rfl (fun g9 e => ?_)
  obtain ⟨g12, h11, e⟩ := bd e
  refine wp_lv (lv' := [(0, .ref v0)]) rfl ⟨rfl, trivial⟩ ?_
  refine l_Layout_closeLine_247 h11 ?_
  show wp (ab_ext L xs) J_Layout_closeLine 289 [(0, .ref v0)] [] (hp g12) Q
  refine wp_p (j := J_Layout_closeLine) 2 (pc' := 291) (lv' := [(0, .ref v0)]) (st' := [.ref v0, .ref v0]) rfl ?_
  refine x_gI e rfl rfl fd_5_11 rfl (fun z13 e => ?_)
  refine x_cv0 (As := [.int z13]) (rest := []) e rfl rfl rfl rfl rfl rfl (fun h => d_Layout_openAt h ⟨rfl, rfl⟩) (fun g14 e => ?_)
  have e := Option.some.inj e; subst e; exact wp_vret rfl rfl c
noncomputable def M_Layout_closeLine (v0 : Nat) (g : g_S) : Option g_S :=
  (rI g 105 v0 10).bind fun z1 =>
  if z1 = 0 then
    some g
  else
    (rI g 105 v0 13).bind fun z2 =>
    (rI g 105 v0 12).bind fun z3 =>
    (rQ g 105 v0 8).bind fun z4 =>
    (rI g 103 z4 12).bind fun z5 =>
    if z5 = 0 then
      k_Layout_closeLine_54 v0 0 g
    else
      (rQ g 105 v0 8).bind fun z6 =>
      (rI g 103 z6 12).bind fun z7 =>
      if z7 = 1 then
        (dv (mx 0 (z2 - z3)) 2).bind fun z8 =>
        k_Layout_closeLine_54 v0 z8 g
      else
        k_Layout_closeLine_54 v0 (mx 0 (z2 - z3)) g
set_option maxRecDepth 20000 in
theorem d_Layout_closeLine {L : Nat} {xs : Nat → Int32} {Q : Option Value → ab_H → Prop} {v0 : Nat} {g : g_S} {out : g_S} (e : M_Layout_closeLine v0 g = some out) (c : Q none (hp out)) : mw (ab_ext L xs) J_Layout_closeLine [.ref v0] (hp g) Q := by
  unfold M_Layout_closeLine at e
  refine wp_p (j := J_Layout_closeLine) 1 (pc' := 1) (lv' := [(0, .ref v0)]) (st' := [.ref v0]) rfl ?_
  refine x_gI e rfl rfl fd_5_10 rfl (fun z1 e => ?_)
  refine z_ne e rfl (fun e => ?_) (fun e => ?_)
  · have e := Option.some.inj e; subst e; exact wp_vret rfl rfl c
  · refine wp_p (j := J_Layout_closeLine) 2 (pc' := 10) (lv' := [(0, .ref v0)]) (st' := [.ref v0, .int 0]) rfl ?_
    refine x_gI e rfl rfl fd_5_13 rfl (fun z2 e => ?_)
    refine wp_p (j := J_Layout_closeLine) 1 (pc' := 14) (lv' := [(0, .ref v0)]) (st' := [.ref v0, .int z2, .int 0]) rfl ?_
    refine x_gI e rfl rfl fd_5_12 rfl (fun z3 e => ?_)
    refine wp_p (j := J_Layout_closeLine) 1 (pc' := 18) (lv' := [(0, .ref v0)]) (st' := [.int (z2 - z3), .int 0]) rfl ?_
    refine x_mx rfl rfl ?_
    refine wp_p (j := J_Layout_closeLine) 2 (pc' := 23) (lv' := [(1, .int (mx 0 (z2 - z3))), (0, .ref v0)]) (st' := [.ref v0]) rfl ?_
    refine x_gQ e rfl rfl fd_5_8 rfl (fun z4 e => ?_)
    refine x_gI e rfl rfl fd_3_12 rfl (fun z5 e => ?_)
    refine z_ne e rfl (fun e => ?_) (fun e => ?_)
    · refine wp_p (j := J_Layout_closeLine) 2 (pc' := 54) (lv' := [(1, .int (mx 0 (z2 - z3))), (0, .ref v0)]) (st' := [.int 0]) rfl ?_
      exact wp_lv (lv' := [(0, .ref v0)]) rfl ⟨rfl, trivial⟩ (x_Layout_closeLine_54 e c)
    · refine wp_p (j := J_Layout_closeLine) 1 (pc' := 37) (lv' := [(1, .int (mx 0 (z2 - z3))), (0, .ref v0)]) (st' := [.ref v0]) rfl ?_
      refine x_gQ e rfl rfl fd_5_8 rfl (fun z6 e => ?_)
      refine x_gI e rfl rfl fd_3_12 rfl (fun z7 e => ?_)
      refine wp_p (j := J_Layout_closeLine) 1 (pc' := 44) (lv' := [(1, .int (mx 0 (z2 - z3))), (0, .ref v0)]) (st' := [.int 1, .int z7]) rfl ?_
      refine x_ne e rfl (fun e => ?_) (fun e => ?_)
      · refine wp_p (j := J_Layout_closeLine) 2 (pc' := 49) (lv' := [(1, .int (mx 0 (z2 - z3))), (0, .ref v0)]) (st' := [.int 2, .int (mx 0 (z2 - z3))]) rfl ?_
        refine x_dv e rfl (fun z8 e => ?_)
        refine wp_p (j := J_Layout_closeLine) 1 (pc' := 54) (lv' := [(1, .int (mx 0 (z2 - z3))), (0, .ref v0)]) (st' := [.int z8]) rfl ?_
        exact wp_lv (lv' := [(0, .ref v0)]) rfl ⟨rfl, trivial⟩ (x_Layout_closeLine_54 e c)
      · refine wp_p (j := J_Layout_closeLine) 1 (pc' := 54) (lv' := [(1, .int (mx 0 (z2 - z3))), (0, .ref v0)]) (st' := [.int (mx 0 (z2 - z3))]) rfl ?_
        exact wp_lv (lv' := [(0, .ref v0)]) rfl ⟨rfl, trivial⟩ (x_Layout_closeLine_54 e c)
def cL_Layout_putItem_26 (L : Nat) (xs : Nat → Int32) (Q : Option Value → ab_H → Prop) (v0 : Nat) (v1 : Int32) (v2 : Int32) (out : (Int32 × Int32 × g_S) ⊕ ((Int32 × g_S) ⊕ (Int32 × g_S))) : Prop := match out with
  | .inl s => wp (ab_ext L xs) J_Layout_putItem 26 [(0, .ref v0), (1, .int v1), (2, .int v2), (4, .int s.1), (5, .int s.2.1)] [] (hp s.2.2) Q
  | .inr (.inl s) => wp (ab_ext L xs) J_Layout_putItem 74 [(0, .ref v0), (1, .int v1), (2, .int v2), (4, .int s.1)] [] (hp s.2) Q
  | .inr (.inr s) => wp (ab_ext L xs) J_Layout_putItem 99 [(0, .ref v0), (1, .int v1), (2, .int v2), (4, .int s.1)] [] (hp s.2) Q
noncomputable def b_Layout_putItem_26 (v0 : Nat) (v1 : Int32) (v2 : Int32) (v4 : Int32) (v5 : Int32) (g : g_S) : Option ((Int32 × Int32 × g_S) ⊕ ((Int32 × g_S) ⊕ (Int32 × g_S))) :=
  if 121 < v5 then
    some (.inr (.inr (v4, g)))
  else
    (rI g 105 v0 12).bind fun z1 =>
    (rI g 105 v0 13).bind fun z2 =>
    if z2 < ((z1 + v4) + v2) then
      (rI g 105 v0 10).bind fun z3 =>
      if 0 < z3 then
        (vc g 105 v0 (M_Layout_closeLine v0 g)).bind fun g4 =>
        some (.inl (0, v5 + 1, g4))
      else
        (rI g 105 v0 14).bind fun z5 =>
        if z5 = (-1) then
          some (.inr (.inl (v4, g)))
        else
          (rI g 105 v0 14).bind fun z6 =>
          (wI g 105 v0 11 z6).bind fun g7 =>
          (rI g7 105 v0 11).bind fun z8 =>
          (vc g7 105 v0 (M_Layout_openAt v0 z8 g7)).bind fun g9 =>
          some (.inl (v4, v5 + 1, g9))
    else
      some (.inr (.inr (v4, g)))
set_option maxRecDepth 20000 in
theorem y_Layout_putItem_26 {L : Nat} {xs : Nat → Int32} {Q : Option Value → ab_H → Prop} {v0 : Nat} {v1 : Int32} {v2 : Int32} {v4 : Int32} {v5 : Int32} {g : g_S} {out : (Int32 × Int32 × g_S) ⊕ ((Int32 × g_S) ⊕ (Int32 × g_S))} (e : b_Layout_putItem_26 v0 v1 v2 v4 v5 g = some out) (c : cL_Layout_putItem_26 L xs Q v0 v1 v2 out) : wp (ab_ext L xs) J_Layout_putItem 26 [(0, .ref v0), (1, .int v1), (2, .int v2), (4, .int v4), (5, .int v5)] [] (hp g) Q := by
  unfold b_Layout_putItem_26 at e
  refine wp_p (j := J_Layout_putItem) 2 (pc' := 30) (lv' := [(0, .ref v0), (1, .int v1), (2, .int v2), (4, .int v4), (5, .int v5)]) (st' := [.int 121, .int v5]) rfl ?_
  refine x_gt e rfl (fun e => ?_) (fun e => ?_)
  · have e := Option.some.inj e; subst e; exact wp_lv (lv' := [(0, .ref v0), (1, .int v1), (2, .int v2), (4, .int v4)]) rfl ⟨rfl, rfl, rfl, rfl, trivial⟩ c
  · refine wp_p (j := J_Layout_putItem) 1 (pc' := 34) (lv' := [(0, .ref v0), (1, .int v1), (2, .int v2), (4, .int v4), (5, .int v5)]) (st' := [.ref v0]) rfl ?_
    refine x_gI e rfl rfl fd_5_12 rfl (fun z1 e => ?_)
    refine wp_p (j := J_Layout_putItem) 5 (pc' := 43) (lv' := [(0, .ref v0), (1, .int v1), (2, .int v2), (4, .int v4), (5, .int v5)]) (st' := [.ref v0, .int ((z1 + v4) + v2)]) rfl ?_
    refine x_gI e rfl rfl fd_5_13 rfl (fun z2 e => ?_)
    refine x_le e rfl (fun e => ?_) (fun e => ?_)
    · refine wp_p (j := J_Layout_putItem) 1 (pc' := 50) (lv' := [(0, .ref v0), (1, .int v1), (2, .int v2), (4, .int v4), (5, .int v5)]) (st' := [.ref v0]) rfl ?_
      refine x_gI e rfl rfl fd_5_10 rfl (fun z3 e => ?_)
      refine z_le e rfl (fun e => ?_) (fun e => ?_)
      · refine wp_p (j := J_Layout_putItem) 1 (pc' := 57) (lv' := [(0, .ref v0), (1, .int v1), (2, .int v2), (4, .int v4), (5, .int v5)]) (st' := [.ref v0]) rfl ?_
        refine x_cv0 (As := []) (rest := []) e rfl rfl rfl rfl rfl rfl (fun h => d_Layout_closeLine h ⟨rfl, rfl⟩) (fun g4 e => ?_)
        refine wp_p (j := J_Layout_putItem) 5 (pc' := 26) (lv' := [(5, .int (v5 + 1)), (4, .int 0), (0, .ref v0), (1, .int v1), (2, .int v2)]) (st' := []) rfl ?_
        have e := Option.some.inj e; subst e; exact wp_lv (lv' := [(0, .ref v0), (1, .int v1), (2, .int v2), (4, .int 0), (5, .int (v5 + 1))]) rfl ⟨rfl, rfl, rfl, rfl, rfl, trivial⟩ c
      · refine wp_p (j := J_Layout_putItem) 1 (pc' := 67) (lv' := [(0, .ref v0), (1, .int v1), (2, .int v2), (4, .int v4), (5, .int v5)]) (st' := [.ref v0]) rfl ?_
        refine x_gI e rfl rfl fd_5_14 rfl (fun z5 e => ?_)
        refine wp_p (j := J_Layout_putItem) 1 (pc' := 71) (lv' := [(0, .ref v0), (1, .int v1), (2, .int v2), (4, .int v4), (5, .int v5)]) (st' := [.int (-1), .int z5]) rfl ?_
        refine x_ne e rfl (fun e => ?_) (fun e => ?_)
        · have e := Option.some.inj e; subst e; exact wp_lv (lv' := [(0, .ref v0), (1, .int v1), (2, .int v2), (4, .int v4)]) rfl ⟨rfl, rfl, rfl, rfl, trivial⟩ c
        · refine wp_p (j := J_Layout_putItem) 2 (pc' := 79) (lv' := [(0, .ref v0), (1, .int v1), (2, .int v2), (4, .int v4), (5, .int v5)]) (st' := [.ref v0, .ref v0]) rfl ?_
          refine x_gI e rfl rfl fd_5_14 rfl (fun z6 e => ?_)
          refine x_pI e rfl rfl fw_5_11 rfl (fun g7 e => ?_)
          refine wp_p (j := J_Layout_putItem) 2 (pc' := 87) (lv' := [(0, .ref v0), (1, .int v1), (2, .int v2), (4, .int v4), (5, .int v5)]) (st' := [.ref v0, .ref v0]) rfl ?_
          refine x_gI e rfl rfl fd_5_11 rfl (fun z8 e => ?_)
          refine x_cv0 (As := [.int z8]) (rest := []) e rfl rfl rfl rfl rfl rfl (fun h => d_Layout_openAt h ⟨rfl, rfl⟩) (fun g9 e => ?_)
          refine wp_p (j := J_Layout_putItem) 2 (pc' := 26) (lv' := [(5, .int (v5 + 1)), (0, .ref v0), (1, .int v1), (2, .int v2), (4, .int v4)]) (st' := []) rfl ?_
          have e := Option.some.inj e; subst e; exact wp_lv (lv' := [(0, .ref v0), (1, .int v1), (2, .int v2), (4, .int v4), (5, .int (v5 + 1))]) rfl ⟨rfl, rfl, rfl, rfl, rfl, trivial⟩ c
    · have e := Option.some.inj e; subst e; exact wp_lv (lv' := [(0, .ref v0), (1, .int v1), (2, .int v2), (4, .int v4)]) rfl ⟨rfl, rfl, rfl, rfl, trivial⟩ c
noncomputable def L_Layout_putItem_26 (v0 : Nat) (v1 : Int32) (v2 : Int32) (v4 : Int32) (v5 : Int32) (g : g_S) : Option ((Int32 × g_S) ⊕ (Int32 × g_S)) := it (fun s : Int32 × Int32 × g_S => b_Layout_putItem_26 v0 v1 v2 s.1 s.2.1 s.2.2) (v4, v5, g)
theorem l_Layout_putItem_26 {L : Nat} {xs : Nat → Int32} {Q : Option Value → ab_H → Prop} {v0 : Nat} {v1 : Int32} {v2 : Int32} {v4 : Int32} {v5 : Int32} {g : g_S} {r : (Int32 × g_S) ⊕ (Int32 × g_S)} (e : L_Layout_putItem_26 v0 v1 v2 v4 v5 g = some r) (c : cL_Layout_putItem_26 L xs Q v0 v1 v2 (.inr r)) : wp (ab_ext L xs) J_Layout_putItem 26 [(0, .ref v0), (1, .int v1), (2, .int v2), (4, .int v4), (5, .int v5)] [] (hp g) Q :=
  it_wp (P := fun s : Int32 × Int32 × g_S => wp (ab_ext L xs) J_Layout_putItem 26 [(0, .ref v0), (1, .int v1), (2, .int v2), (4, .int s.1), (5, .int s.2.1)] [] (hp s.2.2) Q) (E := fun r => cL_Layout_putItem_26 L xs Q v0 v1 v2 (.inr r)) (fun s out e c => y_Layout_putItem_26 e (by cases out <;> exact c)) e c
theorem L_Layout_putItem_26_eq (v0 : Nat) (v1 : Int32) (v2 : Int32) (v4 : Int32) (v5 : Int32) (g : g_S) : L_Layout_putItem_26 v0 v1 v2 v4 v5 g = itc (b_Layout_putItem_26 v0 v1 v2 v4 v5 g) (fun s => L_Layout_putItem_26 v0 v1 v2 s.1 s.2.1 s.2.2) := it_eq2 (fun s : Int32 × Int32 × g_S => b_Layout_putItem_26 v0 v1 v2 s.1 s.2.1 s.2.2) (v4, v5, g)
noncomputable def k_Layout_putItem_171 (v0 : Nat) (v1 : Int32) (v2 : Int32) (v4 : Int32) (g : g_S) : Option g_S :=
  (rQ g 105 v0 9).bind fun z1 =>
  (rI g 105 v0 10).bind fun z2 =>
  (sI g z1 z2 v1).bind fun g3 =>
  (rI g3 105 v0 10).bind fun z4 =>
  (wI g3 105 v0 10 (z4 + 1)).bind fun g5 =>
  (rI g5 105 v0 12).bind fun z6 =>
  (wI g5 105 v0 12 (z6 + (v4 + v2))).bind fun g7 =>
  (wZ g7 105 v0 15 0).bind fun g8 =>
  some g8
set_option maxRecDepth 20000 in
theorem x_Layout_putItem_171 {L : Nat} {xs : Nat → Int32} {Q : Option Value → ab_H → Prop} {v0 : Nat} {v1 : Int32} {v2 : Int32} {v4 : Int32} {g : g_S} {out : g_S} (e : k_Layout_putItem_171 v0 v1 v2 v4 g = some out) (c : Q none (hp out)) : wp (ab_ext L xs) J_Layout_putItem 171 [(0, .ref v0), (1, .int v1), (2, .int v2), (4, .int v4)] [] (hp g) Q := by
  unfold k_Layout_putItem_171 at e
  refine wp_p (j := J_Layout_putItem) 1 (pc' := 172) (lv' := [(0, .ref v0), (1, .int v1), (2, .int v2), (4, .int v4)]) (st' := [.ref v0]) rfl ?_
  refine x_gQ e rfl rfl fd_5_9 rfl (fun z1 e => ?_)
  refine wp_p (j := J_Layout_putItem) 1 (pc' := 176) (lv' := [(0, .ref v0), (1, .int v1), (2, .int v2), (4, .int v4)]) (st' := [.ref v0, .ref z1]) rfl ?_
  refine x_gI e rfl rfl fd_5_10 rfl (fun z2 e => ?_)
  refine wp_p (j := J_Layout_putItem) 1 (pc' := 180) (lv' := [(0, .ref v0), (1, .int v1), (2, .int v2), (4, .int v4)]) (st' := [.int v1, .int z2, .ref z1]) rfl ?_
  refine x_sI e rfl rfl (fun g3 e => ?_)
  refine wp_p (j := J_Layout_putItem) 2 (pc' := 183) (lv' := [(0, .ref v0), (1, .int v1), (2, .int v2), (4, .int v4)]) (st' := [.ref v0, .ref v0]) rfl ?_
  refine x_gI e rfl rfl fd_5_10 rfl (fun z4 e => ?_)
  refine wp_p (j := J_Layout_putItem) 2 (pc' := 188) (lv' := [(0, .ref v0), (1, .int v1), (2, .int v2), (4, .int v4)]) (st' := [.int (z4 + 1), .ref v0]) rfl ?_
  refine x_pI e rfl rfl fw_5_10 rfl (fun g5 e => ?_)
  refine wp_p (j := J_Layout_putItem) 2 (pc' := 193) (lv' := [(0, .ref v0), (1, .int v1), (2, .int v2), (4, .int v4)]) (st' := [.ref v0, .ref v0]) rfl ?_
  refine x_gI e rfl rfl fd_5_12 rfl (fun z6 e => ?_)
  refine wp_p (j := J_Layout_putItem) 4 (pc' := 201) (lv' := [(0, .ref v0), (1, .int v1), (2, .int v2), (4, .int v4)]) (st' := [.int (z6 + (v4 + v2)), .ref v0]) rfl ?_
  refine x_pI e rfl rfl fw_5_12 rfl (fun g7 e => ?_)
  refine wp_p (j := J_Layout_putItem) 2 (pc' := 206) (lv' := [(0, .ref v0), (1, .int v1), (2, .int v2), (4, .int v4)]) (st' := [.int 0, .ref v0]) rfl ?_
  refine x_pZ e rfl rfl fw_5_15 rfl (fun g8 e => ?_)
  have e := Option.some.inj e; subst e; exact wp_vret rfl rfl c
noncomputable def k_Layout_putItem_142 (v0 : Nat) (v1 : Int32) (v2 : Int32) (v4 : Int32) (g : g_S) : Option g_S :=
  (rI g 105 v0 10).bind fun z1 =>
  (rQ g 105 v0 9).bind fun z2 =>
  (aN g z2).bind fun z3 =>
  if z1 = z3 then
    (rQ g 105 v0 9).bind fun z4 =>
    (rI g 105 v0 10).bind fun z5 =>
    c2 (M_Arrays_copyOf_1 z4 (2 * z5) g) fun z6 g7 =>
    (wR g7 105 v0 9 (some z6)).bind fun g8 =>
    k_Layout_putItem_171 v0 v1 v2 v4 g8
  else
    k_Layout_putItem_171 v0 v1 v2 v4 g
set_option maxRecDepth 20000 in
theorem x_Layout_putItem_142 {L : Nat} {xs : Nat → Int32} {Q : Option Value → ab_H → Prop} {v0 : Nat} {v1 : Int32} {v2 : Int32} {v4 : Int32} {g : g_S} {out : g_S} (e : k_Layout_putItem_142 v0 v1 v2 v4 g = some out) (c : Q none (hp out)) : wp (ab_ext L xs) J_Layout_putItem 142 [(0, .ref v0), (1, .int v1), (2, .int v2), (4, .int v4)] [] (hp g) Q := by
  unfold k_Layout_putItem_142 at e
  refine wp_p (j := J_Layout_putItem) 1 (pc' := 143) (lv' := [(0, .ref v0), (1, .int v1), (2, .int v2), (4, .int v4)]) (st' := [.ref v0]) rfl ?_
  refine x_gI e rfl rfl fd_5_10 rfl (fun z1 e => ?_)
  refine wp_p (j := J_Layout_putItem) 1 (pc' := 147) (lv' := [(0, .ref v0), (1, .int v1), (2, .int v2), (4, .int v4)]) (st' := [.ref v0, .int z1]) rfl ?_
  refine x_gQ e rfl rfl fd_5_9 rfl (fun z2 e => ?_)
  refine x_aN e rfl rfl (fun z3 e => ?_)
  refine x_ne e rfl (fun e => ?_) (fun e => ?_)
  · refine wp_p (j := J_Layout_putItem) 2 (pc' := 156) (lv' := [(0, .ref v0), (1, .int v1), (2, .int v2), (4, .int v4)]) (st' := [.ref v0, .ref v0]) rfl ?_
    refine x_gQ e rfl rfl fd_5_9 rfl (fun z4 e => ?_)
    refine wp_p (j := J_Layout_putItem) 2 (pc' := 161) (lv' := [(0, .ref v0), (1, .int v1), (2, .int v2), (4, .int v4)]) (st' := [.ref v0, .int 2, .ref z4, .ref v0]) rfl ?_
    refine x_gI e rfl rfl fd_5_10 rfl (fun z5 e => ?_)
    refine wp_p (j := J_Layout_putItem) 1 (pc' := 165) (lv' := [(0, .ref v0), (1, .int v1), (2, .int v2), (4, .int v4)]) (st' := [.int (2 * z5), .ref z4, .ref v0]) rfl ?_
    refine x_cs2 (As := [.ref z4, .int (2 * z5)]) (rest := [.ref v0]) Value.ref e rfl rfl rfl rfl rfl (fun h => d_Arrays_copyOf_1 h ⟨rfl, rfl⟩) (fun z6 g7 e => ?_)
    refine x_pR (r := (some z6)) e rfl rfl fd_5_9 rfl (fun g8 e => ?_)
    exact wp_lv (lv' := [(0, .ref v0), (1, .int v1), (2, .int v2), (4, .int v4)]) rfl ⟨rfl, rfl, rfl, rfl, trivial⟩ (x_Layout_putItem_171 e c)
  · exact wp_lv (lv' := [(0, .ref v0), (1, .int v1), (2, .int v2), (4, .int v4)]) rfl ⟨rfl, rfl, rfl, rfl, trivial⟩ (x_Layout_putItem_171 e c)
noncomputable def k_Layout_putItem_99 (v0 : Nat) (v1 : Int32) (v2 : Int32) (v4 : Int32) (g : g_S) : Option g_S :=
  if v1 < 0 then
    (rQ g 105 v0 2).bind fun z1 =>
    (aQ g 8 z1 ((-1) - v1)).bind fun z2 =>
    (rI g 105 v0 12).bind fun z3 =>
    (wI g 103 z2 2 (z3 + v4)).bind fun g4 =>
    k_Layout_putItem_142 v0 v1 v2 v4 g4
  else
    (rQ g 105 v0 5).bind fun z5 =>
    (rI g 105 v0 12).bind fun z6 =>
    (sI g z5 ((v1 * 6) + 3) (z6 + v4)).bind fun g7 =>
    k_Layout_putItem_142 v0 v1 v2 v4 g7
set_option maxRecDepth 20000 in
theorem x_Layout_putItem_99 {L : Nat} {xs : Nat → Int32} {Q : Option Value → ab_H → Prop} {v0 : Nat} {v1 : Int32} {v2 : Int32} {v4 : Int32} {g : g_S} {out : g_S} (e : k_Layout_putItem_99 v0 v1 v2 v4 g = some out) (c : Q none (hp out)) : wp (ab_ext L xs) J_Layout_putItem 99 [(0, .ref v0), (1, .int v1), (2, .int v2), (4, .int v4)] [] (hp g) Q := by
  unfold k_Layout_putItem_99 at e
  refine wp_p (j := J_Layout_putItem) 1 (pc' := 100) (lv' := [(0, .ref v0), (1, .int v1), (2, .int v2), (4, .int v4)]) (st' := [.int v1]) rfl ?_
  refine z_ge e rfl (fun e => ?_) (fun e => ?_)
  · refine wp_p (j := J_Layout_putItem) 1 (pc' := 104) (lv' := [(0, .ref v0), (1, .int v1), (2, .int v2), (4, .int v4)]) (st' := [.ref v0]) rfl ?_
    refine x_gQ e rfl rfl fd_5_2 rfl (fun z1 e => ?_)
    refine wp_p (j := J_Layout_putItem) 3 (pc' := 110) (lv' := [(0, .ref v0), (1, .int v1), (2, .int v2), (4, .int v4)]) (st' := [.int ((-1) - v1), .ref z1]) rfl ?_
    refine x_aQ e rfl rfl rfl (fun z2 e => ?_)
    refine wp_p (j := J_Layout_putItem) 1 (pc' := 112) (lv' := [(0, .ref v0), (1, .int v1), (2, .int v2), (4, .int v4)]) (st' := [.ref v0, .ref z2]) rfl ?_
    refine x_gI e rfl rfl fd_5_12 rfl (fun z3 e => ?_)
    refine wp_p (j := J_Layout_putItem) 2 (pc' := 118) (lv' := [(0, .ref v0), (1, .int v1), (2, .int v2), (4, .int v4)]) (st' := [.int (z3 + v4), .ref z2]) rfl ?_
    refine x_pI e rfl rfl fw_3_2 rfl (fun g4 e => ?_)
    refine wp_p (j := J_Layout_putItem) 1 (pc' := 142) (lv' := [(0, .ref v0), (1, .int v1), (2, .int v2), (4, .int v4)]) (st' := []) rfl ?_
    exact wp_lv (lv' := [(0, .ref v0), (1, .int v1), (2, .int v2), (4, .int v4)]) rfl ⟨rfl, rfl, rfl, rfl, trivial⟩ (x_Layout_putItem_142 e c)
  · refine wp_p (j := J_Layout_putItem) 1 (pc' := 125) (lv' := [(0, .ref v0), (1, .int v1), (2, .int v2), (4, .int v4)]) (st' := [.ref v0]) rfl ?_
    refine x_gQ e rfl rfl fd_5_5 rfl (fun z5 e => ?_)
    refine wp_p (j := J_Layout_putItem) 6 (pc' := 135) (lv' := [(0, .ref v0), (1, .int v1), (2, .int v2), (4, .int v4)]) (st' := [.ref v0, .int ((v1 * 6) + 3), .ref z5]) rfl ?_
    refine x_gI e rfl rfl fd_5_12 rfl (fun z6 e => ?_)
    refine wp_p (j := J_Layout_putItem) 2 (pc' := 141) (lv' := [(0, .ref v0), (1, .int v1), (2, .int v2), (4, .int v4)]) (st' := [.int (z6 + v4), .int ((v1 * 6) + 3), .ref z5]) rfl ?_
    refine x_sI e rfl rfl (fun g7 e => ?_)
    exact wp_lv (lv' := [(0, .ref v0), (1, .int v1), (2, .int v2), (4, .int v4)]) rfl ⟨rfl, rfl, rfl, rfl, trivial⟩ (x_Layout_putItem_142 e c)
noncomputable def k_Layout_putItem_21 (v0 : Nat) (v1 : Int32) (v2 : Int32) (w0 : Int32) (g : g_S) : Option g_S :=
  (L_Layout_putItem_26 v0 v1 v2 w0 0 g).bind <|
    us (u2 fun z3 g4 =>
    k_Layout_putItem_99 v0 v1 v2 z3 g4)
    (u2 fun z5 g6 =>
    k_Layout_putItem_99 v0 v1 v2 z5 g6)
set_option maxRecDepth 20000 in
theorem x_Layout_putItem_21 {L : Nat} {xs : Nat → Int32} {Q : Option Value → ab_H → Prop} {v0 : Nat} {v1 : Int32} {v2 : Int32} {w0 : Int32} {g : g_S} {out : g_S} (e : k_Layout_putItem_21 v0 v1 v2 w0 g = some out) (c : Q none (hp out)) : wp (ab_ext L xs) J_Layout_putItem 21 [(0, .ref v0), (1, .int v1), (2, .int v2)] [.int w0] (hp g) Q := by
  unfold k_Layout_putItem_21 at e
  refine wp_p (j := J_Layout_putItem) 3 (pc' := 26) (lv' := [(5, .int 0), (4, .int w0), (0, .ref v0), (1, .int v1), (2, .int v2)]) (st' := []) rfl ?_
  obtain ⟨s1, h2, e⟩ := bd e
  refine wp_lv (lv' := [(0, .ref v0), (1, .int v1), (2, .int v2), (4, .int w0), (5, .int 0)]) rfl ⟨rfl, rfl, rfl, rfl, rfl, trivial⟩ ?_
  refine l_Layout_putItem_26 h2 ?_
  rcases s1 with ⟨z3, g4⟩ | ⟨z5, g6⟩
  · replace e := (u2_e (us_l e))
    show wp (ab_ext L xs) J_Layout_putItem 74 [(0, .ref v0), (1, .int v1), (2, .int v2), (4, .int z3)] [] (hp g4) Q
    refine wp_p (j := J_Layout_putItem) 1 (pc' := 99) (lv' := [(0, .ref v0), (1, .int v1), (2, .int v2), (4, .int z3)]) (st' := []) rfl ?_
    exact wp_lv (lv' := [(0, .ref v0), (1, .int v1), (2, .int v2), (4, .int z3)]) rfl ⟨rfl, rfl, rfl, rfl, trivial⟩ (x_Layout_putItem_99 e c)
  · replace e := (u2_e (us_r e))
    show wp (ab_ext L xs) J_Layout_putItem 99 [(0, .ref v0), (1, .int v1), (2, .int v2), (4, .int z5)] [] (hp g6) Q
    exact wp_lv (lv' := [(0, .ref v0), (1, .int v1), (2, .int v2), (4, .int z5)]) rfl ⟨rfl, rfl, rfl, rfl, trivial⟩ (x_Layout_putItem_99 e c)
noncomputable def k_Layout_putItem_20 (v0 : Nat) (v1 : Int32) (v2 : Int32) (g : g_S) : Option g_S :=
  k_Layout_putItem_21 v0 v1 v2 0 g
set_option maxRecDepth 20000 in
theorem x_Layout_putItem_20 {L : Nat} {xs : Nat → Int32} {Q : Option Value → ab_H → Prop} {v0 : Nat} {v1 : Int32} {v2 : Int32} {g : g_S} {out : g_S} (e : k_Layout_putItem_20 v0 v1 v2 g = some out) (c : Q none (hp out)) : wp (ab_ext L xs) J_Layout_putItem 20 [(0, .ref v0), (1, .int v1), (2, .int v2)] [] (hp g) Q := by
  unfold k_Layout_putItem_20 at e
  refine wp_p (j := J_Layout_putItem) 1 (pc' := 21) (lv' := [(0, .ref v0), (1, .int v1), (2, .int v2)]) (st' := [.int 0]) rfl ?_
  exact wp_lv (lv' := [(0, .ref v0), (1, .int v1), (2, .int v2)]) rfl ⟨rfl, rfl, rfl, trivial⟩ (x_Layout_putItem_21 e c)
noncomputable def M_Layout_putItem (v0 : Nat) (v1 : Int32) (v2 : Int32) (v3 : Int32) (g : g_S) : Option g_S :=
  (rI g 105 v0 10).bind fun z1 =>
  if 0 < z1 then
    (rI g 105 v0 15).bind fun z2 =>
    if z2 = 0 then
      k_Layout_putItem_20 v0 v1 v2 g
    else
      k_Layout_putItem_21 v0 v1 v2 (3 * v3) g
  else
    k_Layout_putItem_20 v0 v1 v2 g
set_option maxRecDepth 20000 in
theorem d_Layout_putItem {L : Nat} {xs : Nat → Int32} {Q : Option Value → ab_H → Prop} {v0 : Nat} {v1 : Int32} {v2 : Int32} {v3 : Int32} {g : g_S} {out : g_S} (e : M_Layout_putItem v0 v1 v2 v3 g = some out) (c : Q none (hp out)) : mw (ab_ext L xs) J_Layout_putItem [.ref v0, .int v1, .int v2, .int v3] (hp g) Q := by
  unfold M_Layout_putItem at e
  refine wp_p (j := J_Layout_putItem) 1 (pc' := 1) (lv' := [(0, .ref v0), (1, .int v1), (2, .int v2), (3, .int v3)]) (st' := [.ref v0]) rfl ?_
  refine x_gI e rfl rfl fd_5_10 rfl (fun z1 e => ?_)
  refine z_le e rfl (fun e => ?_) (fun e => ?_)
  · refine wp_p (j := J_Layout_putItem) 1 (pc' := 8) (lv' := [(0, .ref v0), (1, .int v1), (2, .int v2), (3, .int v3)]) (st' := [.ref v0]) rfl ?_
    refine x_gI e rfl rfl fd_5_15 rfl (fun z2 e => ?_)
    refine z_eq e rfl (fun e => ?_) (fun e => ?_)
    · exact wp_lv (lv' := [(0, .ref v0), (1, .int v1), (2, .int v2)]) rfl ⟨rfl, rfl, rfl, trivial⟩ (x_Layout_putItem_20 e c)
    · refine wp_p (j := J_Layout_putItem) 4 (pc' := 21) (lv' := [(0, .ref v0), (1, .int v1), (2, .int v2), (3, .int v3)]) (st' := [.int (3 * v3)]) rfl ?_
      exact wp_lv (lv' := [(0, .ref v0), (1, .int v1), (2, .int v2)]) rfl ⟨rfl, rfl, rfl, trivial⟩ (x_Layout_putItem_21 e c)
  · exact wp_lv (lv' := [(0, .ref v0), (1, .int v1), (2, .int v2)]) rfl ⟨rfl, rfl, rfl, trivial⟩ (x_Layout_putItem_20 e c)
def cL_Layout_putWords_8 (L : Nat) (xs : Nat → Int32) (Q : Option Value → ab_H → Prop) (v0 : Nat) (v1 : Nat) (v2 : Nat) (out : (Int32 × Int32 × g_S) ⊕ (Int32 × g_S)) : Prop := match out with
  | .inl s => wp (ab_ext L xs) J_Layout_putWords 8 [(0, .ref v0), (1, .ref v1), (2, .ref v2), (3, .int s.1), (4, .int s.2.1)] [] (hp s.2.2) Q
  | .inr s => wp (ab_ext L xs) J_Layout_putWords 102 [(0, .ref v0), (1, .ref v1), (3, .int s.1)] [] (hp s.2) Q
noncomputable def k_Layout_putWords_55 (v0 : Nat) (v1 : Nat) (v2 : Nat) (v4 : Int32) (v5 : Int32) (w0 : Int32) (w1 : Nat) (g : g_S) : Option ((Int32 × Int32 × g_S) ⊕ (Int32 × g_S)) :=
  (wZ g 105 w1 15 w0).bind fun g1 =>
  (rQ g1 105 v0 5).bind fun z2 =>
  (aI g1 0 z2 ((v4 * 6) + 5)).bind fun z3 =>
  (rI g1 103 v2 11).bind fun z4 =>
  (vc g1 105 v0 (M_Layout_putItem v0 v4 z3 z4 g1)).bind fun g5 =>
  (rQ g5 105 v0 5).bind fun z6 =>
  (aI g5 0 z6 ((v4 * 6) + 2)).bind fun z7 =>
  some (.inl (v5 + z7, v4 + 1, g5))
set_option maxRecDepth 20000 in
theorem x_Layout_putWords_55 {L : Nat} {xs : Nat → Int32} {Q : Option Value → ab_H → Prop} {v0 : Nat} {v1 : Nat} {v2 : Nat} {v4 : Int32} {v5 : Int32} {w0 : Int32} {w1 : Nat} {g : g_S} {out : (Int32 × Int32 × g_S) ⊕ (Int32 × g_S)} (e : k_Layout_putWords_55 v0 v1 v2 v4 v5 w0 w1 g = some out) (c : cL_Layout_putWords_8 L xs Q v0 v1 v2 out) : wp (ab_ext L xs) J_Layout_putWords 55 [(0, .ref v0), (1, .ref v1), (2, .ref v2), (4, .int v4), (5, .int v5)] [.int w0, .ref w1] (hp g) Q := by
  unfold k_Layout_putWords_55 at e
  refine x_pZ e rfl rfl fw_5_15 rfl (fun g1 e => ?_)
  refine wp_p (j := J_Layout_putWords) 3 (pc' := 62) (lv' := [(0, .ref v0), (1, .ref v1), (2, .ref v2), (4, .int v4), (5, .int v5)]) (st' := [.ref v0, .int v4, .ref v0]) rfl ?_
  refine x_gQ e rfl rfl fd_5_5 rfl (fun z2 e => ?_)
  refine wp_p (j := J_Layout_putWords) 5 (pc' := 72) (lv' := [(0, .ref v0), (1, .ref v1), (2, .ref v2), (4, .int v4), (5, .int v5)]) (st' := [.int ((v4 * 6) + 5), .ref z2, .int v4, .ref v0]) rfl ?_
  refine x_aI e rfl rfl (fun z3 e => ?_)
  refine wp_p (j := J_Layout_putWords) 1 (pc' := 74) (lv' := [(0, .ref v0), (1, .ref v1), (2, .ref v2), (4, .int v4), (5, .int v5)]) (st' := [.ref v2, .int z3, .int v4, .ref v0]) rfl ?_
  refine x_gI e rfl rfl fd_3_11 rfl (fun z4 e => ?_)
  refine x_cv0 (As := [.int v4, .int z3, .int z4]) (rest := []) e rfl rfl rfl rfl rfl rfl (fun h => d_Layout_putItem h ⟨rfl, rfl⟩) (fun g5 e => ?_)
  refine wp_p (j := J_Layout_putWords) 2 (pc' := 83) (lv' := [(0, .ref v0), (1, .ref v1), (2, .ref v2), (4, .int v4), (5, .int v5)]) (st' := [.ref v0, .int v5]) rfl ?_
  refine x_gQ e rfl rfl fd_5_5 rfl (fun z6 e => ?_)
  refine wp_p (j := J_Layout_putWords) 5 (pc' := 93) (lv' := [(0, .ref v0), (1, .ref v1), (2, .ref v2), (4, .int v4), (5, .int v5)]) (st' := [.int ((v4 * 6) + 2), .ref z6, .int v5]) rfl ?_
  refine x_aI e rfl rfl (fun z7 e => ?_)
  refine wp_p (j := J_Layout_putWords) 4 (pc' := 8) (lv' := [(4, .int (v4 + 1)), (3, .int (v5 + z7)), (0, .ref v0), (1, .ref v1), (2, .ref v2), (5, .int v5)]) (st' := []) rfl ?_
  have e := Option.some.inj e; subst e; exact wp_lv (lv' := [(0, .ref v0), (1, .ref v1), (2, .ref v2), (3, .int (v5 + z7)), (4, .int (v4 + 1))]) rfl ⟨rfl, rfl, rfl, rfl, rfl, trivial⟩ c
noncomputable def k_Layout_putWords_50 (v0 : Nat) (v1 : Nat) (v2 : Nat) (v4 : Int32) (v5 : Int32) (w0 : Nat) (g : g_S) : Option ((Int32 × Int32 × g_S) ⊕ (Int32 × g_S)) :=
  k_Layout_putWords_55 v0 v1 v2 v4 v5 1 w0 g
set_option maxRecDepth 20000 in
theorem x_Layout_putWords_50 {L : Nat} {xs : Nat → Int32} {Q : Option Value → ab_H → Prop} {v0 : Nat} {v1 : Nat} {v2 : Nat} {v4 : Int32} {v5 : Int32} {w0 : Nat} {g : g_S} {out : (Int32 × Int32 × g_S) ⊕ (Int32 × g_S)} (e : k_Layout_putWords_50 v0 v1 v2 v4 v5 w0 g = some out) (c : cL_Layout_putWords_8 L xs Q v0 v1 v2 out) : wp (ab_ext L xs) J_Layout_putWords 50 [(0, .ref v0), (1, .ref v1), (2, .ref v2), (4, .int v4), (5, .int v5)] [.ref w0] (hp g) Q := by
  unfold k_Layout_putWords_50 at e
  refine wp_p (j := J_Layout_putWords) 2 (pc' := 55) (lv' := [(0, .ref v0), (1, .ref v1), (2, .ref v2), (4, .int v4), (5, .int v5)]) (st' := [.int 1, .ref w0]) rfl ?_
  exact wp_lv (lv' := [(0, .ref v0), (1, .ref v1), (2, .ref v2), (4, .int v4), (5, .int v5)]) rfl ⟨rfl, rfl, rfl, rfl, rfl, trivial⟩ (x_Layout_putWords_55 e c)
noncomputable def b_Layout_putWords_8 (v0 : Nat) (v1 : Nat) (v2 : Nat) (v3 : Int32) (v4 : Int32) (g : g_S) : Option ((Int32 × Int32 × g_S) ⊕ (Int32 × g_S)) :=
  (rI g 103 v2 18).bind fun z1 =>
  (rI g 103 v2 19).bind fun z2 =>
  if v4 < (z1 + z2) then
    (rQ g 105 v0 5).bind fun z3 =>
    (aI g 0 z3 ((v4 * 6) + 1)).bind fun z4 =>
    (rI g 105 v0 15).bind fun z5 =>
    if z5 = 0 then
      if v3 < z4 then
        k_Layout_putWords_50 v0 v1 v2 v4 z4 v0 g
      else
        k_Layout_putWords_55 v0 v1 v2 v4 z4 0 v0 g
    else
      k_Layout_putWords_50 v0 v1 v2 v4 z4 v0 g
  else
    some (.inr (v3, g))
set_option maxRecDepth 20000 in
theorem y_Layout_putWords_8 {L : Nat} {xs : Nat → Int32} {Q : Option Value → ab_H → Prop} {v0 : Nat} {v1 : Nat} {v2 : Nat} {v3 : Int32} {v4 : Int32} {g : g_S} {out : (Int32 × Int32 × g_S) ⊕ (Int32 × g_S)} (e : b_Layout_putWords_8 v0 v1 v2 v3 v4 g = some out) (c : cL_Layout_putWords_8 L xs Q v0 v1 v2 out) : wp (ab_ext L xs) J_Layout_putWords 8 [(0, .ref v0), (1, .ref v1), (2, .ref v2), (3, .int v3), (4, .int v4)] [] (hp g) Q := by
  unfold b_Layout_putWords_8 at e
  refine wp_p (j := J_Layout_putWords) 2 (pc' := 11) (lv' := [(0, .ref v0), (1, .ref v1), (2, .ref v2), (3, .int v3), (4, .int v4)]) (st' := [.ref v2, .int v4]) rfl ?_
  refine x_gI e rfl rfl fd_3_18 rfl (fun z1 e => ?_)
  refine wp_p (j := J_Layout_putWords) 1 (pc' := 15) (lv' := [(0, .ref v0), (1, .ref v1), (2, .ref v2), (3, .int v3), (4, .int v4)]) (st' := [.ref v2, .int z1, .int v4]) rfl ?_
  refine x_gI e rfl rfl fd_3_19 rfl (fun z2 e => ?_)
  refine wp_p (j := J_Layout_putWords) 1 (pc' := 19) (lv' := [(0, .ref v0), (1, .ref v1), (2, .ref v2), (3, .int v3), (4, .int v4)]) (st' := [.int (z1 + z2), .int v4]) rfl ?_
  refine x_ge e rfl (fun e => ?_) (fun e => ?_)
  · refine wp_p (j := J_Layout_putWords) 1 (pc' := 23) (lv' := [(0, .ref v0), (1, .ref v1), (2, .ref v2), (3, .int v3), (4, .int v4)]) (st' := [.ref v0]) rfl ?_
    refine x_gQ e rfl rfl fd_5_5 rfl (fun z3 e => ?_)
    refine wp_p (j := J_Layout_putWords) 5 (pc' := 33) (lv' := [(0, .ref v0), (1, .ref v1), (2, .ref v2), (3, .int v3), (4, .int v4)]) (st' := [.int ((v4 * 6) + 1), .ref z3]) rfl ?_
    refine x_aI e rfl rfl (fun z4 e => ?_)
    refine wp_p (j := J_Layout_putWords) 3 (pc' := 38) (lv' := [(5, .int z4), (0, .ref v0), (1, .ref v1), (2, .ref v2), (3, .int v3), (4, .int v4)]) (st' := [.ref v0, .ref v0]) rfl ?_
    refine x_gI e rfl rfl fd_5_15 rfl (fun z5 e => ?_)
    refine z_ne e rfl (fun e => ?_) (fun e => ?_)
    · refine wp_p (j := J_Layout_putWords) 2 (pc' := 47) (lv' := [(5, .int z4), (0, .ref v0), (1, .ref v1), (2, .ref v2), (3, .int v3), (4, .int v4)]) (st' := [.int v3, .int z4, .ref v0]) rfl ?_
      refine x_le e rfl (fun e => ?_) (fun e => ?_)
      · exact wp_lv (lv' := [(0, .ref v0), (1, .ref v1), (2, .ref v2), (4, .int v4), (5, .int z4)]) rfl ⟨rfl, rfl, rfl, rfl, rfl, trivial⟩ (x_Layout_putWords_50 e c)
      · refine wp_p (j := J_Layout_putWords) 1 (pc' := 55) (lv' := [(5, .int z4), (0, .ref v0), (1, .ref v1), (2, .ref v2), (3, .int v3), (4, .int v4)]) (st' := [.int 0, .ref v0]) rfl ?_
        exact wp_lv (lv' := [(0, .ref v0), (1, .ref v1), (2, .ref v2), (4, .int v4), (5, .int z4)]) rfl ⟨rfl, rfl, rfl, rfl, rfl, trivial⟩ (x_Layout_putWords_55 e c)
    · exact wp_lv (lv' := [(0, .ref v0), (1, .ref v1), (2, .ref v2), (4, .int v4), (5, .int z4)]) rfl ⟨rfl, rfl, rfl, rfl, rfl, trivial⟩ (x_Layout_putWords_50 e c)
  · have e := Option.some.inj e; subst e; exact wp_lv (lv' := [(0, .ref v0), (1, .ref v1), (3, .int v3)]) rfl ⟨rfl, rfl, rfl, trivial⟩ c
noncomputable def L_Layout_putWords_8 (v0 : Nat) (v1 : Nat) (v2 : Nat) (v3 : Int32) (v4 : Int32) (g : g_S) : Option (Int32 × g_S) := it (fun s : Int32 × Int32 × g_S => b_Layout_putWords_8 v0 v1 v2 s.1 s.2.1 s.2.2) (v3, v4, g)
theorem l_Layout_putWords_8 {L : Nat} {xs : Nat → Int32} {Q : Option Value → ab_H → Prop} {v0 : Nat} {v1 : Nat} {v2 : Nat} {v3 : Int32} {v4 : Int32} {g : g_S} {r : Int32 × g_S} (e : L_Layout_putWords_8 v0 v1 v2 v3 v4 g = some r) (c : cL_Layout_putWords_8 L xs Q v0 v1 v2 (.inr r)) : wp (ab_ext L xs) J_Layout_putWords 8 [(0, .ref v0), (1, .ref v1), (2, .ref v2), (3, .int v3), (4, .int v4)] [] (hp g) Q :=
  it_wp (P := fun s : Int32 × Int32 × g_S => wp (ab_ext L xs) J_Layout_putWords 8 [(0, .ref v0), (1, .ref v1), (2, .ref v2), (3, .int s.1), (4, .int s.2.1)] [] (hp s.2.2) Q) (E := fun r => cL_Layout_putWords_8 L xs Q v0 v1 v2 (.inr r)) (fun s out e c => y_Layout_putWords_8 e (by cases out <;> exact c)) e c
theorem L_Layout_putWords_8_eq (v0 : Nat) (v1 : Nat) (v2 : Nat) (v3 : Int32) (v4 : Int32) (g : g_S) : L_Layout_putWords_8 v0 v1 v2 v3 v4 g = itc (b_Layout_putWords_8 v0 v1 v2 v3 v4 g) (fun s => L_Layout_putWords_8 v0 v1 v2 s.1 s.2.1 s.2.2) := it_eq2 (fun s : Int32 × Int32 × g_S => b_Layout_putWords_8 v0 v1 v2 s.1 s.2.1 s.2.2) (v3, v4, g)
noncomputable def k_Layout_putWords_123 (w0 : Int32) (w1 : Nat) (g : g_S) : Option g_S :=
  (wZ g 105 w1 15 w0).bind fun g1 =>
  some g1
set_option maxRecDepth 20000 in
theorem x_Layout_putWords_123 {L : Nat} {xs : Nat → Int32} {Q : Option Value → ab_H → Prop} {w0 : Int32} {w1 : Nat} {g : g_S} {out : g_S} (e : k_Layout_putWords_123 w0 w1 g = some out) (c : Q none (hp out)) : wp (ab_ext L xs) J_Layout_putWords 123 [] [.int w0, .ref w1] (hp g) Q := by
  unfold k_Layout_putWords_123 at e
  refine x_pZ e rfl rfl fw_5_15 rfl (fun g1 e => ?_)
  have e := Option.some.inj e; subst e; exact wp_vret rfl rfl c
noncomputable def k_Layout_putWords_118 (w0 : Nat) (g : g_S) : Option g_S :=
  k_Layout_putWords_123 1 w0 g
set_option maxRecDepth 20000 in
theorem x_Layout_putWords_118 {L : Nat} {xs : Nat → Int32} {Q : Option Value → ab_H → Prop} {w0 : Nat} {g : g_S} {out : g_S} (e : k_Layout_putWords_118 w0 g = some out) (c : Q none (hp out)) : wp (ab_ext L xs) J_Layout_putWords 118 [] [.ref w0] (hp g) Q := by
  unfold k_Layout_putWords_118 at e
  refine wp_p (j := J_Layout_putWords) 2 (pc' := 123) (lv' := []) (st' := [.int 1, .ref w0]) rfl ?_
  exact wp_lv (lv' := []) rfl trivial (x_Layout_putWords_123 e c)
noncomputable def M_Layout_putWords (v0 : Nat) (v1 : Nat) (v2 : Nat) (g : g_S) : Option g_S :=
  (rI g 103 v2 18).bind fun z1 =>
  (L_Layout_putWords_8 v0 v1 v2 0 z1 g).bind <| u2 fun z4 g5 =>
  (rI g5 105 v0 15).bind fun z6 =>
  if z6 = 0 then
    (rI g5 104 v1 2).bind fun z7 =>
    if z4 < z7 then
      k_Layout_putWords_118 v0 g5
    else
      k_Layout_putWords_123 0 v0 g5
  else
    k_Layout_putWords_118 v0 g5
set_option maxRecDepth 20000 in
theorem d_Layout_putWords {L : Nat} {xs : Nat → Int32} {Q : Option Value → ab_H → Prop} {v0 : Nat} {v1 : Nat} {v2 : Nat} {g : g_S} {out : g_S} (e : M_Layout_putWords v0 v1 v2 g = some out) (c : Q none (hp out)) : mw (ab_ext L xs) J_Layout_putWords [.ref v0, .ref v1, .ref v2] (hp g) Q := by
  unfold M_Layout_putWords at e
  refine wp_p (j := J_Layout_putWords) 3 (pc' := 3) (lv' := [(3, .int 0), (0, .ref v0), (1, .ref v1), (2, .ref v2)]) (st' := [.ref v2]) rfl ?_
  refine x_gI e rfl rfl fd_3_18 rfl (fun z1 e => ?_)
  refine wp_p (j := J_Layout_putWords) 1 (pc' := 8) (lv' := [(4, .int z1), (3, .int 0), (0, .ref v0), (1, .ref v1), (2, .ref v2)]) (st' := []) rfl ?_
  obtain ⟨s2, h3, e⟩ := bd e
  refine wp_lv (lv' := [(0, .ref v0), (1, .ref v1), (2, .ref v2), (3, .int 0), (4, .int z1)]) rfl ⟨rfl, rfl, rfl, rfl, rfl, trivial⟩ ?_
  refine l_Layout_putWords_8 h3 ?_
  obtain ⟨z4, g5⟩ := s2
  replace e := u2_e e
  show wp (ab_ext L xs) J_Layout_putWords 102 [(0, .ref v0), (1, .ref v1), (3, .int z4)] [] (hp g5) Q
  refine wp_p (j := J_Layout_putWords) 2 (pc' := 104) (lv' := [(0, .ref v0), (1, .ref v1), (3, .int z4)]) (st' := [.ref v0, .ref v0]) rfl ?_
  refine x_gI e rfl rfl fd_5_15 rfl (fun z6 e => ?_)
  refine z_ne e rfl (fun e => ?_) (fun e => ?_)
  · refine wp_p (j := J_Layout_putWords) 2 (pc' := 112) (lv' := [(0, .ref v0), (1, .ref v1), (3, .int z4)]) (st' := [.ref v1, .int z4, .ref v0]) rfl ?_
    refine x_gI e rfl rfl fd_4_2 rfl (fun z7 e => ?_)
    refine x_ge e rfl (fun e => ?_) (fun e => ?_)
    · exact wp_lv (lv' := []) rfl trivial (x_Layout_putWords_118 e c)
    · refine wp_p (j := J_Layout_putWords) 1 (pc' := 123) (lv' := [(0, .ref v0), (1, .ref v1), (3, .int z4)]) (st' := [.int 0, .ref v0]) rfl ?_
      exact wp_lv (lv' := []) rfl trivial (x_Layout_putWords_123 e c)
  · exact wp_lv (lv' := []) rfl trivial (x_Layout_putWords_118 e c)
noncomputable def M_Layout_layInLines (v0 : Nat) (v1 : Int32) (v2 : Nat) (g : g_S) : Option g_S :=
  (rQ g 105 v0 0).bind fun z1 =>
  (rQ g 110 z1 0).bind fun z2 =>
  (aQ g 5 z2 v1).bind fun z3 =>
  (rI g 107 z3 0).bind fun z4 =>
  if z4 = 10 then
    (rI g 105 v0 10).bind fun z5 =>
    if z5 = 0 then
      (rI g 105 v0 11).bind fun z6 =>
      (rI g 103 v2 11).bind fun z7 =>
      (wI g 105 v0 11 (z6 + (7 * z7))).bind fun g8 =>
      (rI g8 105 v0 11).bind fun z9 =>
      (vc g8 105 v0 (M_Layout_openAt v0 z9 g8)).bind fun g10 =>
      some g10
    else
      (vc g 105 v0 (M_Layout_closeLine v0 g)).bind fun g11 =>
      some g11
  else
    (rI g 103 v2 0).bind fun z12 =>
    if z12 = 2 then
      (rI g 103 v2 4).bind fun z13 =>
      (rI g 103 v2 11).bind fun z14 =>
      (vc g 105 v0 (M_Layout_putItem v0 ((-1) - v1) z13 z14 g)).bind fun g15 =>
      some g15
    else
      (rI g 103 v2 0).bind fun z16 =>
      if z16 = 1 then
        (rQ g 105 v0 16).bind fun z17 =>
        (rI g 105 v0 18).bind fun z18 =>
        (sI g z17 z18 v1).bind fun g19 =>
        (rI g19 105 v0 18).bind fun z20 =>
        (wI g19 105 v0 18 (z20 + 1)).bind fun g21 =>
        (rI g21 105 v0 10).bind fun z22 =>
        if z22 = 0 then
          (vc g21 105 v0 (M_Layout_putFloat v0 v2 g21)).bind fun g23 =>
          (rI g23 105 v0 17).bind fun z24 =>
          (wI g23 105 v0 17 (z24 + 1)).bind fun g25 =>
          (rI g25 105 v0 11).bind fun z26 =>
          (vc g25 105 v0 (M_Layout_openAt v0 z26 g25)).bind fun g27 =>
          some g27
        else
          some g21
      else
        some g
set_option maxRecDepth 20000 in
theorem d_Layout_layInLines {L : Nat} {xs : Nat → Int32} {Q : Option Value → ab_H → Prop} {v0 : Nat} {v1 : Int32} {v2 : Nat} {g : g_S} {out : g_S} (e : M_Layout_layInLines v0 v1 v2 g = some out) (c : Q none (hp out)) : mw (ab_ext L xs) J_Layout_layInLines [.ref v0, .int v1, .ref v2] (hp g) Q := by
  unfold M_Layout_layInLines at e
  refine wp_p (j := J_Layout_layInLines) 1 (pc' := 1) (lv' := [(0, .ref v0), (1, .int v1), (2, .ref v2)]) (st' := [.ref v0]) rfl ?_
  refine x_gQ e rfl rfl fd_5_0 rfl (fun z1 e => ?_)
  refine x_gQ e rfl rfl fd_10_0 rfl (fun z2 e => ?_)
  refine wp_p (j := J_Layout_layInLines) 1 (pc' := 8) (lv' := [(0, .ref v0), (1, .int v1), (2, .ref v2)]) (st' := [.int v1, .ref z2]) rfl ?_
  refine x_aQ e rfl rfl rfl (fun z3 e => ?_)
  refine x_gI e rfl rfl fd_7_0 rfl (fun z4 e => ?_)
  refine wp_p (j := J_Layout_layInLines) 1 (pc' := 14) (lv' := [(0, .ref v0), (1, .int v1), (2, .ref v2)]) (st' := [.int 10, .int z4]) rfl ?_
  refine x_ne e rfl (fun e => ?_) (fun e => ?_)
  · refine wp_p (j := J_Layout_layInLines) 1 (pc' := 18) (lv' := [(0, .ref v0), (1, .int v1), (2, .ref v2)]) (st' := [.ref v0]) rfl ?_
    refine x_gI e rfl rfl fd_5_10 rfl (fun z5 e => ?_)
    refine z_ne e rfl (fun e => ?_) (fun e => ?_)
    · refine wp_p (j := J_Layout_layInLines) 2 (pc' := 26) (lv' := [(0, .ref v0), (1, .int v1), (2, .ref v2)]) (st' := [.ref v0, .ref v0]) rfl ?_
      refine x_gI e rfl rfl fd_5_11 rfl (fun z6 e => ?_)
      refine wp_p (j := J_Layout_layInLines) 2 (pc' := 32) (lv' := [(0, .ref v0), (1, .int v1), (2, .ref v2)]) (st' := [.ref v2, .int 7, .int z6, .ref v0]) rfl ?_
      refine x_gI e rfl rfl fd_3_11 rfl (fun z7 e => ?_)
      refine wp_p (j := J_Layout_layInLines) 2 (pc' := 37) (lv' := [(0, .ref v0), (1, .int v1), (2, .ref v2)]) (st' := [.int (z6 + (7 * z7)), .ref v0]) rfl ?_
      refine x_pI e rfl rfl fw_5_11 rfl (fun g8 e => ?_)
      refine wp_p (j := J_Layout_layInLines) 2 (pc' := 42) (lv' := [(0, .ref v0), (1, .int v1), (2, .ref v2)]) (st' := [.ref v0, .ref v0]) rfl ?_
      refine x_gI e rfl rfl fd_5_11 rfl (fun z9 e => ?_)
      refine x_cv0 (As := [.int z9]) (rest := []) e rfl rfl rfl rfl rfl rfl (fun h => d_Layout_openAt h ⟨rfl, rfl⟩) (fun g10 e => ?_)
      refine wp_p (j := J_Layout_layInLines) 1 (pc' := 142) (lv' := [(0, .ref v0), (1, .int v1), (2, .ref v2)]) (st' := []) rfl ?_
      have e := Option.some.inj e; subst e; exact wp_vret rfl rfl c
    · refine wp_p (j := J_Layout_layInLines) 1 (pc' := 52) (lv' := [(0, .ref v0), (1, .int v1), (2, .ref v2)]) (st' := [.ref v0]) rfl ?_
      refine x_cv0 (As := []) (rest := []) e rfl rfl rfl rfl rfl rfl (fun h => d_Layout_closeLine h ⟨rfl, rfl⟩) (fun g11 e => ?_)
      refine wp_p (j := J_Layout_layInLines) 1 (pc' := 142) (lv' := [(0, .ref v0), (1, .int v1), (2, .ref v2)]) (st' := []) rfl ?_
      have e := Option.some.inj e; subst e; exact wp_vret rfl rfl c
  · refine wp_p (j := J_Layout_layInLines) 1 (pc' := 59) (lv' := [(0, .ref v0), (1, .int v1), (2, .ref v2)]) (st' := [.ref v2]) rfl ?_
    refine x_gI e rfl rfl fd_3_0 rfl (fun z12 e => ?_)
    refine wp_p (j := J_Layout_layInLines) 1 (pc' := 63) (lv' := [(0, .ref v0), (1, .int v1), (2, .ref v2)]) (st' := [.int 2, .int z12]) rfl ?_
    refine x_ne e rfl (fun e => ?_) (fun e => ?_)
    · refine wp_p (j := J_Layout_layInLines) 5 (pc' := 71) (lv' := [(0, .ref v0), (1, .int v1), (2, .ref v2)]) (st' := [.ref v2, .int ((-1) - v1), .ref v0]) rfl ?_
      refine x_gI e rfl rfl fd_3_4 rfl (fun z13 e => ?_)
      refine wp_p (j := J_Layout_layInLines) 1 (pc' := 75) (lv' := [(0, .ref v0), (1, .int v1), (2, .ref v2)]) (st' := [.ref v2, .int z13, .int ((-1) - v1), .ref v0]) rfl ?_
      refine x_gI e rfl rfl fd_3_11 rfl (fun z14 e => ?_)
      refine x_cv0 (As := [.int ((-1) - v1), .int z13, .int z14]) (rest := []) e rfl rfl rfl rfl rfl rfl (fun h => d_Layout_putItem h ⟨rfl, rfl⟩) (fun g15 e => ?_)
      refine wp_p (j := J_Layout_layInLines) 1 (pc' := 142) (lv' := [(0, .ref v0), (1, .int v1), (2, .ref v2)]) (st' := []) rfl ?_
      have e := Option.some.inj e; subst e; exact wp_vret rfl rfl c
    · refine wp_p (j := J_Layout_layInLines) 1 (pc' := 85) (lv' := [(0, .ref v0), (1, .int v1), (2, .ref v2)]) (st' := [.ref v2]) rfl ?_
      refine x_gI e rfl rfl fd_3_0 rfl (fun z16 e => ?_)
      refine wp_p (j := J_Layout_layInLines) 1 (pc' := 89) (lv' := [(0, .ref v0), (1, .int v1), (2, .ref v2)]) (st' := [.int 1, .int z16]) rfl ?_
      refine x_ne e rfl (fun e => ?_) (fun e => ?_)
      · refine wp_p (j := J_Layout_layInLines) 1 (pc' := 93) (lv' := [(0, .ref v0), (1, .int v1), (2, .ref v2)]) (st' := [.ref v0]) rfl ?_
        refine x_gQ e rfl rfl fd_5_16 rfl (fun z17 e => ?_)
        refine wp_p (j := J_Layout_layInLines) 1 (pc' := 97) (lv' := [(0, .ref v0), (1, .int v1), (2, .ref v2)]) (st' := [.ref v0, .ref z17]) rfl ?_
        refine x_gI e rfl rfl fd_5_18 rfl (fun z18 e => ?_)
        refine wp_p (j := J_Layout_layInLines) 1 (pc' := 101) (lv' := [(0, .ref v0), (1, .int v1), (2, .ref v2)]) (st' := [.int v1, .int z18, .ref z17]) rfl ?_
        refine x_sI e rfl rfl (fun g19 e => ?_)
        refine wp_p (j := J_Layout_layInLines) 2 (pc' := 104) (lv' := [(0, .ref v0), (1, .int v1), (2, .ref v2)]) (st' := [.ref v0, .ref v0]) rfl ?_
        refine x_gI e rfl rfl fd_5_18 rfl (fun z20 e => ?_)
        refine wp_p (j := J_Layout_layInLines) 2 (pc' := 109) (lv' := [(0, .ref v0), (1, .int v1), (2, .ref v2)]) (st' := [.int (z20 + 1), .ref v0]) rfl ?_
        refine x_pI e rfl rfl fw_5_18 rfl (fun g21 e => ?_)
        refine wp_p (j := J_Layout_layInLines) 1 (pc' := 113) (lv' := [(0, .ref v0), (1, .int v1), (2, .ref v2)]) (st' := [.ref v0]) rfl ?_
        refine x_gI e rfl rfl fd_5_10 rfl (fun z22 e => ?_)
        refine z_ne e rfl (fun e => ?_) (fun e => ?_)
        · refine wp_p (j := J_Layout_layInLines) 2 (pc' := 121) (lv' := [(0, .ref v0), (1, .int v1), (2, .ref v2)]) (st' := [.ref v2, .ref v0]) rfl ?_
          refine x_cv0 (As := [.ref v2]) (rest := []) e rfl rfl rfl rfl rfl rfl (fun h => d_Layout_putFloat h ⟨rfl, rfl⟩) (fun g23 e => ?_)
          refine wp_p (j := J_Layout_layInLines) 2 (pc' := 126) (lv' := [(0, .ref v0), (1, .int v1), (2, .ref v2)]) (st' := [.ref v0, .ref v0]) rfl ?_
          refine x_gI e rfl rfl fd_5_17 rfl (fun z24 e => ?_)
          refine wp_p (j := J_Layout_layInLines) 2 (pc' := 131) (lv' := [(0, .ref v0), (1, .int v1), (2, .ref v2)]) (st' := [.int (z24 + 1), .ref v0]) rfl ?_
          refine x_pI e rfl rfl fw_5_17 rfl (fun g25 e => ?_)
          refine wp_p (j := J_Layout_layInLines) 2 (pc' := 136) (lv' := [(0, .ref v0), (1, .int v1), (2, .ref v2)]) (st' := [.ref v0, .ref v0]) rfl ?_
          refine x_gI e rfl rfl fd_5_11 rfl (fun z26 e => ?_)
          refine x_cv0 (As := [.int z26]) (rest := []) e rfl rfl rfl rfl rfl rfl (fun h => d_Layout_openAt h ⟨rfl, rfl⟩) (fun g27 e => ?_)
          have e := Option.some.inj e; subst e; exact wp_vret rfl rfl c
        · have e := Option.some.inj e; subst e; exact wp_vret rfl rfl c
      · have e := Option.some.inj e; subst e; exact wp_vret rfl rfl c
def cL_Layout_layFlow_51 (L : Nat) (xs : Nat → Int32) (Q : Option Value → ab_H → Prop) (v0 : Nat) (v1 : Int32) (v2 : Nat) (v5 : Int32) (out : (Int32 × (Option Nat) × Int32 × Int32 × g_S) ⊕ ((Option Nat) × g_S)) : Prop := match out with
  | .inl s => wp (ab_ext L xs) J_Layout_layFlow 51 [(0, .ref v0), (1, .int v1), (2, .ref v2), (3, .int s.1), (4, va_rf s.2.1), (5, .int v5), (6, .int s.2.2.1), (7, .int s.2.2.2.1)] [] (hp s.2.2.2.2) Q
  | .inr s => wp (ab_ext L xs) J_Layout_layFlow 349 [(0, .ref v0), (1, .int v1), (2, .ref v2), (4, va_rf s.1)] [] (hp s.2) Q
noncomputable def k_Layout_layFlow_293 (v0 : Nat) (v1 : Int32) (v2 : Nat) (v4 : Option Nat) (v5 : Int32) (v6 : Int32) (v7 : Int32) (v8 : Int32) (v9 : Nat) (g : g_S) : Option ((Int32 × (Option Nat) × Int32 × Int32 × g_S) ⊕ ((Option Nat) × g_S)) :=
  (rQ g 105 v0 0).bind fun z1 =>
  (rQ g 110 z1 0).bind fun z2 =>
  (aQ g 5 z2 v8).bind fun z3 =>
  (rI g 107 z3 0).bind fun z4 =>
  if z4 = 17 then
    (rQ g 105 v0 0).bind fun z5 =>
    (rQ g 110 z5 0).bind fun z6 =>
    (aQ g 5 z6 v8).bind fun z7 =>
    (rQ g 107 z7 11).bind fun z8 =>
    (vc g 105 v0 (M_Layout_putWords v0 z8 v9 g)).bind fun g9 =>
    some (.inl (0, v4, v6, v7 + 1, g9))
  else
    (vc g 105 v0 (M_Layout_layInLines v0 v8 v9 g)).bind fun g10 =>
    some (.inl (0, v4, v6, v7 + 1, g10))
set_option maxRecDepth 20000 in
theorem x_Layout_layFlow_293 {L : Nat} {xs : Nat → Int32} {Q : Option Value → ab_H → Prop} {v0 : Nat} {v1 : Int32} {v2 : Nat} {v4 : Option Nat} {v5 : Int32} {v6 : Int32} {v7 : Int32} {v8 : Int32} {v9 : Nat} {g : g_S} {out : (Int32 × (Option Nat) × Int32 × Int32 × g_S) ⊕ ((Option Nat) × g_S)} (e : k_Layout_layFlow_293 v0 v1 v2 v4 v5 v6 v7 v8 v9 g = some out) (c : cL_Layout_layFlow_51 L xs Q v0 v1 v2 v5 out) : wp (ab_ext L xs) J_Layout_layFlow 293 [(0, .ref v0), (1, .int v1), (2, .ref v2), (4, va_rf v4), (5, .int v5), (6, .int v6), (7, .int v7), (8, .int v8), (9, .ref v9)] [] (hp g) Q := by
  unfold k_Layout_layFlow_293 at e
  refine wp_p (j := J_Layout_layFlow) 1 (pc' := 294) (lv' := [(0, .ref v0), (1, .int v1), (2, .ref v2), (4, va_rf v4), (5, .int v5), (6, .int v6), (7, .int v7), (8, .int v8), (9, .ref v9)]) (st' := [.ref v0]) rfl ?_
  refine x_gQ e rfl rfl fd_5_0 rfl (fun z1 e => ?_)
  refine x_gQ e rfl rfl fd_10_0 rfl (fun z2 e => ?_)
  refine wp_p (j := J_Layout_layFlow) 1 (pc' := 302) (lv' := [(0, .ref v0), (1, .int v1), (2, .ref v2), (4, va_rf v4), (5, .int v5), (6, .int v6), (7, .int v7), (8, .int v8), (9, .ref v9)]) (st' := [.int v8, .ref z2]) rfl ?_
  refine x_aQ e rfl rfl rfl (fun z3 e => ?_)
  refine x_gI e rfl rfl fd_7_0 rfl (fun z4 e => ?_)
  refine wp_p (j := J_Layout_layFlow) 1 (pc' := 308) (lv' := [(0, .ref v0), (1, .int v1), (2, .ref v2), (4, va_rf v4), (5, .int v5), (6, .int v6), (7, .int v7), (8, .int v8), (9, .ref v9)]) (st' := [.int 17, .int z4]) rfl ?_
  refine x_ne e rfl (fun e => ?_) (fun e => ?_)
  · refine wp_p (j := J_Layout_layFlow) 2 (pc' := 313) (lv' := [(0, .ref v0), (1, .int v1), (2, .ref v2), (4, va_rf v4), (5, .int v5), (6, .int v6), (7, .int v7), (8, .int v8), (9, .ref v9)]) (st' := [.ref v0, .ref v0]) rfl ?_
    refine x_gQ e rfl rfl fd_5_0 rfl (fun z5 e => ?_)
    refine x_gQ e rfl rfl fd_10_0 rfl (fun z6 e => ?_)
    refine wp_p (j := J_Layout_layFlow) 1 (pc' := 321) (lv' := [(0, .ref v0), (1, .int v1), (2, .ref v2), (4, va_rf v4), (5, .int v5), (6, .int v6), (7, .int v7), (8, .int v8), (9, .ref v9)]) (st' := [.int v8, .ref z6, .ref v0]) rfl ?_
    refine x_aQ e rfl rfl rfl (fun z7 e => ?_)
    refine x_gQ e rfl rfl fd_7_11 rfl (fun z8 e => ?_)
    refine wp_p (j := J_Layout_layFlow) 1 (pc' := 327) (lv' := [(0, .ref v0), (1, .int v1), (2, .ref v2), (4, va_rf v4), (5, .int v5), (6, .int v6), (7, .int v7), (8, .int v8), (9, .ref v9)]) (st' := [.ref v9, .ref z8, .ref v0]) rfl ?_
    refine x_cv0 (As := [.ref z8, .ref v9]) (rest := []) e rfl rfl rfl rfl rfl rfl (fun h => d_Layout_putWords h ⟨rfl, rfl⟩) (fun g9 e => ?_)
    refine wp_p (j := J_Layout_layFlow) 5 (pc' := 51) (lv' := [(7, .int (v7 + 1)), (3, .int 0), (0, .ref v0), (1, .int v1), (2, .ref v2), (4, va_rf v4), (5, .int v5), (6, .int v6), (8, .int v8), (9, .ref v9)]) (st' := []) rfl ?_
    have e := Option.some.inj e; subst e; exact wp_lv (lv' := [(0, .ref v0), (1, .int v1), (2, .ref v2), (3, .int 0), (4, va_rf v4), (5, .int v5), (6, .int v6), (7, .int (v7 + 1))]) rfl ⟨rfl, rfl, rfl, rfl, rfl, rfl, rfl, rfl, trivial⟩ c
  · refine wp_p (j := J_Layout_layFlow) 3 (pc' := 338) (lv' := [(0, .ref v0), (1, .int v1), (2, .ref v2), (4, va_rf v4), (5, .int v5), (6, .int v6), (7, .int v7), (8, .int v8), (9, .ref v9)]) (st' := [.ref v9, .int v8, .ref v0]) rfl ?_
    refine x_cv0 (As := [.int v8, .ref v9]) (rest := []) e rfl rfl rfl rfl rfl rfl (fun h => d_Layout_layInLines h ⟨rfl, rfl⟩) (fun g10 e => ?_)
    refine wp_p (j := J_Layout_layFlow) 4 (pc' := 51) (lv' := [(7, .int (v7 + 1)), (3, .int 0), (0, .ref v0), (1, .int v1), (2, .ref v2), (4, va_rf v4), (5, .int v5), (6, .int v6), (8, .int v8), (9, .ref v9)]) (st' := []) rfl ?_
    have e := Option.some.inj e; subst e; exact wp_lv (lv' := [(0, .ref v0), (1, .int v1), (2, .ref v2), (3, .int 0), (4, va_rf v4), (5, .int v5), (6, .int v6), (7, .int (v7 + 1))]) rfl ⟨rfl, rfl, rfl, rfl, rfl, rfl, rfl, rfl, trivial⟩ c
noncomputable def k_Layout_layFlow_205 (v0 : Nat) (v1 : Int32) (v2 : Nat) (v5 : Int32) (v6 : Int32) (v7 : Int32) (v9 : Nat) (w0 : Int32) (g : g_S) : Option ((Int32 × (Option Nat) × Int32 × Int32 × g_S) ⊕ ((Option Nat) × g_S)) :=
  (rI g 103 v2 8).bind fun z1 =>
  (rI g 103 v9 6).bind fun z2 =>
  (wI g 103 v9 2 (z1 + z2)).bind fun g3 =>
  (rI g3 105 v0 11).bind fun z4 =>
  (rI g3 105 v0 19).bind fun z5 =>
  (wI g3 103 v9 3 (mx (z4 + w0) z5)).bind fun g6 =>
  (rI g6 103 v9 3).bind fun z7 =>
  (rI g6 103 v9 5).bind fun z8 =>
  (wI g6 105 v0 11 (z7 + z8)).bind fun g9 =>
  some (.inl (0, some v9, v6, v7 + 1, g9))
set_option maxRecDepth 20000 in
theorem x_Layout_layFlow_205 {L : Nat} {xs : Nat → Int32} {Q : Option Value → ab_H → Prop} {v0 : Nat} {v1 : Int32} {v2 : Nat} {v5 : Int32} {v6 : Int32} {v7 : Int32} {v9 : Nat} {w0 : Int32} {g : g_S} {out : (Int32 × (Option Nat) × Int32 × Int32 × g_S) ⊕ ((Option Nat) × g_S)} (e : k_Layout_layFlow_205 v0 v1 v2 v5 v6 v7 v9 w0 g = some out) (c : cL_Layout_layFlow_51 L xs Q v0 v1 v2 v5 out) : wp (ab_ext L xs) J_Layout_layFlow 205 [(0, .ref v0), (1, .int v1), (2, .ref v2), (5, .int v5), (6, .int v6), (7, .int v7), (9, .ref v9)] [.int w0] (hp g) Q := by
  unfold k_Layout_layFlow_205 at e
  refine wp_p (j := J_Layout_layFlow) 3 (pc' := 210) (lv' := [(10, .int w0), (0, .ref v0), (1, .int v1), (2, .ref v2), (5, .int v5), (6, .int v6), (7, .int v7), (9, .ref v9)]) (st' := [.ref v2, .ref v9]) rfl ?_
  refine x_gI e rfl rfl fd_3_8 rfl (fun z1 e => ?_)
  refine wp_p (j := J_Layout_layFlow) 1 (pc' := 215) (lv' := [(10, .int w0), (0, .ref v0), (1, .int v1), (2, .ref v2), (5, .int v5), (6, .int v6), (7, .int v7), (9, .ref v9)]) (st' := [.ref v9, .int z1, .ref v9]) rfl ?_
  refine x_gI e rfl rfl fd_3_6 rfl (fun z2 e => ?_)
  refine wp_p (j := J_Layout_layFlow) 1 (pc' := 219) (lv' := [(10, .int w0), (0, .ref v0), (1, .int v1), (2, .ref v2), (5, .int v5), (6, .int v6), (7, .int v7), (9, .ref v9)]) (st' := [.int (z1 + z2), .ref v9]) rfl ?_
  refine x_pI e rfl rfl fw_3_2 rfl (fun g3 e => ?_)
  refine wp_p (j := J_Layout_layFlow) 2 (pc' := 225) (lv' := [(10, .int w0), (0, .ref v0), (1, .int v1), (2, .ref v2), (5, .int v5), (6, .int v6), (7, .int v7), (9, .ref v9)]) (st' := [.ref v0, .ref v9]) rfl ?_
  refine x_gI e rfl rfl fd_5_11 rfl (fun z4 e => ?_)
  refine wp_p (j := J_Layout_layFlow) 3 (pc' := 232) (lv' := [(10, .int w0), (0, .ref v0), (1, .int v1), (2, .ref v2), (5, .int v5), (6, .int v6), (7, .int v7), (9, .ref v9)]) (st' := [.ref v0, .int (z4 + w0), .ref v9]) rfl ?_
  refine x_gI e rfl rfl fd_5_19 rfl (fun z5 e => ?_)
  refine x_mx rfl rfl ?_
  refine x_pI e rfl rfl fw_3_3 rfl (fun g6 e => ?_)
  refine wp_p (j := J_Layout_layFlow) 2 (pc' := 244) (lv' := [(10, .int w0), (0, .ref v0), (1, .int v1), (2, .ref v2), (5, .int v5), (6, .int v6), (7, .int v7), (9, .ref v9)]) (st' := [.ref v9, .ref v0]) rfl ?_
  refine x_gI e rfl rfl fd_3_3 rfl (fun z7 e => ?_)
  refine wp_p (j := J_Layout_layFlow) 1 (pc' := 249) (lv' := [(10, .int w0), (0, .ref v0), (1, .int v1), (2, .ref v2), (5, .int v5), (6, .int v6), (7, .int v7), (9, .ref v9)]) (st' := [.ref v9, .int z7, .ref v0]) rfl ?_
  refine x_gI e rfl rfl fd_3_5 rfl (fun z8 e => ?_)
  refine wp_p (j := J_Layout_layFlow) 1 (pc' := 253) (lv' := [(10, .int w0), (0, .ref v0), (1, .int v1), (2, .ref v2), (5, .int v5), (6, .int v6), (7, .int v7), (9, .ref v9)]) (st' := [.int (z7 + z8), .ref v0]) rfl ?_
  refine x_pI e rfl rfl fw_5_11 rfl (fun g9 e => ?_)
  refine wp_p (j := J_Layout_layFlow) 7 (pc' := 51) (lv' := [(7, .int (v7 + 1)), (3, .int 0), (4, .ref v9), (10, .int w0), (0, .ref v0), (1, .int v1), (2, .ref v2), (5, .int v5), (6, .int v6), (9, .ref v9)]) (st' := []) rfl ?_
  have e := Option.some.inj e; subst e; exact wp_lv (lv' := [(0, .ref v0), (1, .int v1), (2, .ref v2), (3, .int 0), (4, va_rf (some v9)), (5, .int v5), (6, .int v6), (7, .int (v7 + 1))]) rfl ⟨rfl, rfl, rfl, rfl, rfl, rfl, rfl, rfl, trivial⟩ c
noncomputable def k_Layout_layFlow_180 (v0 : Nat) (v1 : Int32) (v2 : Nat) (v4 : Option Nat) (v5 : Int32) (v6 : Int32) (v7 : Int32) (v9 : Nat) (w0 : Int32) (g : g_S) : Option ((Int32 × (Option Nat) × Int32 × Int32 × g_S) ⊕ ((Option Nat) × g_S)) :=
  oc v4
    (fun q1 =>
    (rI g 103 q1 15).bind fun z2 =>
    (rI g 103 v9 14).bind fun z3 =>
    k_Layout_layFlow_205 v0 v1 v2 v5 v6 v7 v9 (mx z2 z3) g)
    (
    k_Layout_layFlow_205 v0 v1 v2 v5 v6 v7 v9 w0 g)
set_option maxRecDepth 20000 in
theorem x_Layout_layFlow_180 {L : Nat} {xs : Nat → Int32} {Q : Option Value → ab_H → Prop} {v0 : Nat} {v1 : Int32} {v2 : Nat} {v4 : Option Nat} {v5 : Int32} {v6 : Int32} {v7 : Int32} {v9 : Nat} {w0 : Int32} {g : g_S} {out : (Int32 × (Option Nat) × Int32 × Int32 × g_S) ⊕ ((Option Nat) × g_S)} (e : k_Layout_layFlow_180 v0 v1 v2 v4 v5 v6 v7 v9 w0 g = some out) (c : cL_Layout_layFlow_51 L xs Q v0 v1 v2 v5 out) : wp (ab_ext L xs) J_Layout_layFlow 180 [(0, .ref v0), (1, .int v1), (2, .ref v2), (4, va_rf v4), (5, .int v5), (6, .int v6), (7, .int v7), (9, .ref v9)] [.int w0] (hp g) Q := by
  unfold k_Layout_layFlow_180 at e
  refine wp_p (j := J_Layout_layFlow) 1 (pc' := 182) (lv' := [(10, .int w0), (0, .ref v0), (1, .int v1), (2, .ref v2), (4, va_rf v4), (5, .int v5), (6, .int v6), (7, .int v7), (9, .ref v9)]) (st' := []) rfl ?_
  rcases v4 with _ | q1
  · replace e := oc_n e
    show wp (ab_ext L xs) J_Layout_layFlow 182 [(10, .int w0), (0, .ref v0), (1, .int v1), (2, .ref v2), (4, .null), (5, .int v5), (6, .int v6), (7, .int v7), (9, .ref v9)] [] (hp g) Q
    refine wp_p (j := J_Layout_layFlow) 1 (pc' := 184) (lv' := [(10, .int w0), (0, .ref v0), (1, .int v1), (2, .ref v2), (4, .null), (5, .int v5), (6, .int v6), (7, .int v7), (9, .ref v9)]) (st' := [.null]) rfl ?_
    refine wp_b (pc' := 187) (st' := []) rfl rfl rfl ?_
    refine wp_p (j := J_Layout_layFlow) 2 (pc' := 205) (lv' := [(10, .int w0), (0, .ref v0), (1, .int v1), (2, .ref v2), (4, .null), (5, .int v5), (6, .int v6), (7, .int v7), (9, .ref v9)]) (st' := [.int w0]) rfl ?_
    exact wp_lv (lv' := [(0, .ref v0), (1, .int v1), (2, .ref v2), (5, .int v5), (6, .int v6), (7, .int v7), (9, .ref v9)]) rfl ⟨rfl, rfl, rfl, rfl, rfl, rfl, rfl, trivial⟩ (x_Layout_layFlow_205 e c)
  · replace e := oc_s e
    show wp (ab_ext L xs) J_Layout_layFlow 182 [(10, .int w0), (0, .ref v0), (1, .int v1), (2, .ref v2), (4, .ref q1), (5, .int v5), (6, .int v6), (7, .int v7), (9, .ref v9)] [] (hp g) Q
    refine wp_p (j := J_Layout_layFlow) 1 (pc' := 184) (lv' := [(10, .int w0), (0, .ref v0), (1, .int v1), (2, .ref v2), (4, .ref q1), (5, .int v5), (6, .int v6), (7, .int v7), (9, .ref v9)]) (st' := [.ref q1]) rfl ?_
    refine wp_b (pc' := 192) (st' := []) rfl rfl rfl ?_
    refine wp_p (j := J_Layout_layFlow) 1 (pc' := 194) (lv' := [(10, .int w0), (0, .ref v0), (1, .int v1), (2, .ref v2), (4, .ref q1), (5, .int v5), (6, .int v6), (7, .int v7), (9, .ref v9)]) (st' := [.ref q1]) rfl ?_
    refine x_gI e rfl rfl fd_3_15 rfl (fun z2 e => ?_)
    refine wp_p (j := J_Layout_layFlow) 1 (pc' := 199) (lv' := [(10, .int w0), (0, .ref v0), (1, .int v1), (2, .ref v2), (4, .ref q1), (5, .int v5), (6, .int v6), (7, .int v7), (9, .ref v9)]) (st' := [.ref v9, .int z2]) rfl ?_
    refine x_gI e rfl rfl fd_3_14 rfl (fun z3 e => ?_)
    refine x_mx rfl rfl ?_
    exact wp_lv (lv' := [(0, .ref v0), (1, .int v1), (2, .ref v2), (5, .int v5), (6, .int v6), (7, .int v7), (9, .ref v9)]) rfl ⟨rfl, rfl, rfl, rfl, rfl, rfl, rfl, trivial⟩ (x_Layout_layFlow_205 e c)
noncomputable def k_Layout_layFlow_175 (v0 : Nat) (v1 : Int32) (v2 : Nat) (v4 : Option Nat) (v5 : Int32) (v6 : Int32) (v7 : Int32) (v9 : Nat) (g : g_S) : Option ((Int32 × (Option Nat) × Int32 × Int32 × g_S) ⊕ ((Option Nat) × g_S)) :=
  (rI g 103 v9 14).bind fun z1 =>
  k_Layout_layFlow_180 v0 v1 v2 v4 v5 v6 v7 v9 z1 g
set_option maxRecDepth 20000 in
theorem x_Layout_layFlow_175 {L : Nat} {xs : Nat → Int32} {Q : Option Value → ab_H → Prop} {v0 : Nat} {v1 : Int32} {v2 : Nat} {v4 : Option Nat} {v5 : Int32} {v6 : Int32} {v7 : Int32} {v9 : Nat} {g : g_S} {out : (Int32 × (Option Nat) × Int32 × Int32 × g_S) ⊕ ((Option Nat) × g_S)} (e : k_Layout_layFlow_175 v0 v1 v2 v4 v5 v6 v7 v9 g = some out) (c : cL_Layout_layFlow_51 L xs Q v0 v1 v2 v5 out) : wp (ab_ext L xs) J_Layout_layFlow 175 [(0, .ref v0), (1, .int v1), (2, .ref v2), (4, va_rf v4), (5, .int v5), (6, .int v6), (7, .int v7), (9, .ref v9)] [] (hp g) Q := by
  unfold k_Layout_layFlow_175 at e
  refine wp_p (j := J_Layout_layFlow) 1 (pc' := 177) (lv' := [(0, .ref v0), (1, .int v1), (2, .ref v2), (4, va_rf v4), (5, .int v5), (6, .int v6), (7, .int v7), (9, .ref v9)]) (st' := [.ref v9]) rfl ?_
  refine x_gI e rfl rfl fd_3_14 rfl (fun z1 e => ?_)
  exact wp_lv (lv' := [(0, .ref v0), (1, .int v1), (2, .ref v2), (4, va_rf v4), (5, .int v5), (6, .int v6), (7, .int v7), (9, .ref v9)]) rfl ⟨rfl, rfl, rfl, rfl, rfl, rfl, rfl, rfl, trivial⟩ (x_Layout_layFlow_180 e c)
noncomputable def k_Layout_layFlow_146 (v0 : Nat) (v1 : Int32) (v2 : Nat) (v3 : Int32) (v4 : Option Nat) (v5 : Int32) (v7 : Int32) (v8 : Int32) (v9 : Nat) (w0 : Int32) (g : g_S) : Option ((Int32 × (Option Nat) × Int32 × Int32 × g_S) ⊕ ((Option Nat) × g_S)) :=
  (vc g 103 v9 (M_Box_isBlockInFlow v9 g)).bind fun z1 =>
  if z1 = 0 then
    oc v4
      (fun q2 =>
      (rI g 105 v0 11).bind fun z3 =>
      (rI g 103 q2 15).bind fun z4 =>
      (wI g 105 v0 11 (z3 + z4)).bind fun g5 =>
      (rI g5 105 v0 11).bind fun z6 =>
      (vc g5 105 v0 (M_Layout_openAt v0 z6 g5)).bind fun g7 =>
      k_Layout_layFlow_293 v0 v1 v2 none v5 w0 v7 v8 v9 g7)
      (
      k_Layout_layFlow_293 v0 v1 v2 none v5 w0 v7 v8 v9 g)
  else
    (vc g 105 v0 (M_Layout_closeLine v0 g)).bind fun g8 =>
    if v3 = 0 then
      k_Layout_layFlow_175 v0 v1 v2 v4 v5 w0 v7 v9 g8
    else
      (rI g8 103 v2 16).bind fun z9 =>
      if z9 = 0 then
        k_Layout_layFlow_175 v0 v1 v2 v4 v5 w0 v7 v9 g8
      else
        k_Layout_layFlow_180 v0 v1 v2 v4 v5 w0 v7 v9 0 g8
set_option maxRecDepth 20000 in
theorem x_Layout_layFlow_146 {L : Nat} {xs : Nat → Int32} {Q : Option Value → ab_H → Prop} {v0 : Nat} {v1 : Int32} {v2 : Nat} {v3 : Int32} {v4 : Option Nat} {v5 : Int32} {v7 : Int32} {v8 : Int32} {v9 : Nat} {w0 : Int32} {g : g_S} {out : (Int32 × (Option Nat) × Int32 × Int32 × g_S) ⊕ ((Option Nat) × g_S)} (e : k_Layout_layFlow_146 v0 v1 v2 v3 v4 v5 v7 v8 v9 w0 g = some out) (c : cL_Layout_layFlow_51 L xs Q v0 v1 v2 v5 out) : wp (ab_ext L xs) J_Layout_layFlow 146 [(0, .ref v0), (1, .int v1), (2, .ref v2), (3, .int v3), (4, va_rf v4), (5, .int v5), (7, .int v7), (8, .int v8), (9, .ref v9)] [.int w0] (hp g) Q := by
  unfold k_Layout_layFlow_146 at e
  refine wp_p (j := J_Layout_layFlow) 2 (pc' := 150) (lv' := [(6, .int w0), (0, .ref v0), (1, .int v1), (2, .ref v2), (3, .int v3), (4, va_rf v4), (5, .int v5), (7, .int v7), (8, .int v8), (9, .ref v9)]) (st' := [.ref v9]) rfl ?_
  refine x_cv1 (As := []) (rest := []) Value.int e rfl rfl rfl rfl rfl rfl (fun h => d_Box_isBlockInFlow h ⟨rfl, rfl⟩) (fun z1 e => ?_)
  refine z_eq e rfl (fun e => ?_) (fun e => ?_)
  · rcases v4 with _ | q2
    · replace e := oc_n e
      show wp (ab_ext L xs) J_Layout_layFlow 263 [(6, .int w0), (0, .ref v0), (1, .int v1), (2, .ref v2), (3, .int v3), (4, .null), (5, .int v5), (7, .int v7), (8, .int v8), (9, .ref v9)] [] (hp g) Q
      refine wp_p (j := J_Layout_layFlow) 1 (pc' := 265) (lv' := [(6, .int w0), (0, .ref v0), (1, .int v1), (2, .ref v2), (3, .int v3), (4, .null), (5, .int v5), (7, .int v7), (8, .int v8), (9, .ref v9)]) (st' := [.null]) rfl ?_
      refine wp_b (pc' := 293) (st' := []) rfl rfl rfl ?_
      exact wp_lv (lv' := [(0, .ref v0), (1, .int v1), (2, .ref v2), (4, va_rf none), (5, .int v5), (6, .int w0), (7, .int v7), (8, .int v8), (9, .ref v9)]) rfl ⟨rfl, rfl, rfl, rfl, rfl, rfl, rfl, rfl, rfl, trivial⟩ (x_Layout_layFlow_293 e c)
    · replace e := oc_s e
      show wp (ab_ext L xs) J_Layout_layFlow 263 [(6, .int w0), (0, .ref v0), (1, .int v1), (2, .ref v2), (3, .int v3), (4, .ref q2), (5, .int v5), (7, .int v7), (8, .int v8), (9, .ref v9)] [] (hp g) Q
      refine wp_p (j := J_Layout_layFlow) 1 (pc' := 265) (lv' := [(6, .int w0), (0, .ref v0), (1, .int v1), (2, .ref v2), (3, .int v3), (4, .ref q2), (5, .int v5), (7, .int v7), (8, .int v8), (9, .ref v9)]) (st' := [.ref q2]) rfl ?_
      refine wp_b (pc' := 268) (st' := []) rfl rfl rfl ?_
      refine wp_p (j := J_Layout_layFlow) 2 (pc' := 270) (lv' := [(6, .int w0), (0, .ref v0), (1, .int v1), (2, .ref v2), (3, .int v3), (4, .ref q2), (5, .int v5), (7, .int v7), (8, .int v8), (9, .ref v9)]) (st' := [.ref v0, .ref v0]) rfl ?_
      refine x_gI e rfl rfl fd_5_11 rfl (fun z3 e => ?_)
      refine wp_p (j := J_Layout_layFlow) 1 (pc' := 275) (lv' := [(6, .int w0), (0, .ref v0), (1, .int v1), (2, .ref v2), (3, .int v3), (4, .ref q2), (5, .int v5), (7, .int v7), (8, .int v8), (9, .ref v9)]) (st' := [.ref q2, .int z3, .ref v0]) rfl ?_
      refine x_gI e rfl rfl fd_3_15 rfl (fun z4 e => ?_)
      refine wp_p (j := J_Layout_layFlow) 1 (pc' := 279) (lv' := [(6, .int w0), (0, .ref v0), (1, .int v1), (2, .ref v2), (3, .int v3), (4, .ref q2), (5, .int v5), (7, .int v7), (8, .int v8), (9, .ref v9)]) (st' := [.int (z3 + z4), .ref v0]) rfl ?_
      refine x_pI e rfl rfl fw_5_11 rfl (fun g5 e => ?_)
      refine wp_p (j := J_Layout_layFlow) 4 (pc' := 287) (lv' := [(4, .null), (6, .int w0), (0, .ref v0), (1, .int v1), (2, .ref v2), (3, .int v3), (5, .int v5), (7, .int v7), (8, .int v8), (9, .ref v9)]) (st' := [.ref v0, .ref v0]) rfl ?_
      refine x_gI e rfl rfl fd_5_11 rfl (fun z6 e => ?_)
      refine x_cv0 (As := [.int z6]) (rest := []) e rfl rfl rfl rfl rfl rfl (fun h => d_Layout_openAt h ⟨rfl, rfl⟩) (fun g7 e => ?_)
      exact wp_lv (lv' := [(0, .ref v0), (1, .int v1), (2, .ref v2), (4, va_rf none), (5, .int v5), (6, .int w0), (7, .int v7), (8, .int v8), (9, .ref v9)]) rfl ⟨rfl, rfl, rfl, rfl, rfl, rfl, rfl, rfl, rfl, trivial⟩ (x_Layout_layFlow_293 e c)
  · refine wp_p (j := J_Layout_layFlow) 1 (pc' := 157) (lv' := [(6, .int w0), (0, .ref v0), (1, .int v1), (2, .ref v2), (3, .int v3), (4, va_rf v4), (5, .int v5), (7, .int v7), (8, .int v8), (9, .ref v9)]) (st' := [.ref v0]) rfl ?_
    refine x_cv0 (As := []) (rest := []) e rfl rfl rfl rfl rfl rfl (fun h => d_Layout_closeLine h ⟨rfl, rfl⟩) (fun g8 e => ?_)
    refine wp_p (j := J_Layout_layFlow) 1 (pc' := 161) (lv' := [(6, .int w0), (0, .ref v0), (1, .int v1), (2, .ref v2), (3, .int v3), (4, va_rf v4), (5, .int v5), (7, .int v7), (8, .int v8), (9, .ref v9)]) (st' := [.int v3]) rfl ?_
    refine z_eq e rfl (fun e => ?_) (fun e => ?_)
    · exact wp_lv (lv' := [(0, .ref v0), (1, .int v1), (2, .ref v2), (4, va_rf v4), (5, .int v5), (6, .int w0), (7, .int v7), (9, .ref v9)]) rfl ⟨rfl, rfl, rfl, rfl, rfl, rfl, rfl, rfl, trivial⟩ (x_Layout_layFlow_175 e c)
    · refine wp_p (j := J_Layout_layFlow) 1 (pc' := 165) (lv' := [(6, .int w0), (0, .ref v0), (1, .int v1), (2, .ref v2), (3, .int v3), (4, va_rf v4), (5, .int v5), (7, .int v7), (8, .int v8), (9, .ref v9)]) (st' := [.ref v2]) rfl ?_
      refine x_gI e rfl rfl fd_3_16 rfl (fun z9 e => ?_)
      refine z_eq e rfl (fun e => ?_) (fun e => ?_)
      · exact wp_lv (lv' := [(0, .ref v0), (1, .int v1), (2, .ref v2), (4, va_rf v4), (5, .int v5), (6, .int w0), (7, .int v7), (9, .ref v9)]) rfl ⟨rfl, rfl, rfl, rfl, rfl, rfl, rfl, rfl, trivial⟩ (x_Layout_layFlow_175 e c)
      · refine wp_p (j := J_Layout_layFlow) 2 (pc' := 180) (lv' := [(6, .int w0), (0, .ref v0), (1, .int v1), (2, .ref v2), (3, .int v3), (4, va_rf v4), (5, .int v5), (7, .int v7), (8, .int v8), (9, .ref v9)]) (st' := [.int 0]) rfl ?_
        exact wp_lv (lv' := [(0, .ref v0), (1, .int v1), (2, .ref v2), (4, va_rf v4), (5, .int v5), (6, .int w0), (7, .int v7), (9, .ref v9)]) rfl ⟨rfl, rfl, rfl, rfl, rfl, rfl, rfl, rfl, trivial⟩ (x_Layout_layFlow_180 e c)
noncomputable def k_Layout_layFlow_94 (v0 : Nat) (v1 : Int32) (v2 : Nat) (v3 : Int32) (v4 : Option Nat) (v5 : Int32) (v6 : Int32) (v7 : Int32) (v8 : Int32) (g : g_S) : Option ((Int32 × (Option Nat) × Int32 × Int32 × g_S) ⊕ ((Option Nat) × g_S)) :=
  (rQ g 105 v0 0).bind fun z1 =>
  (rQ g 110 z1 0).bind fun z2 =>
  (aQ g 5 z2 v8).bind fun z3 =>
  (rI g 107 z3 9).bind fun z4 =>
  some (.inl (v3, v4, mx v6 z4, v7 + 1, g))
set_option maxRecDepth 20000 in
theorem x_Layout_layFlow_94 {L : Nat} {xs : Nat → Int32} {Q : Option Value → ab_H → Prop} {v0 : Nat} {v1 : Int32} {v2 : Nat} {v3 : Int32} {v4 : Option Nat} {v5 : Int32} {v6 : Int32} {v7 : Int32} {v8 : Int32} {g : g_S} {out : (Int32 × (Option Nat) × Int32 × Int32 × g_S) ⊕ ((Option Nat) × g_S)} (e : k_Layout_layFlow_94 v0 v1 v2 v3 v4 v5 v6 v7 v8 g = some out) (c : cL_Layout_layFlow_51 L xs Q v0 v1 v2 v5 out) : wp (ab_ext L xs) J_Layout_layFlow 94 [(0, .ref v0), (1, .int v1), (2, .ref v2), (3, .int v3), (4, va_rf v4), (5, .int v5), (6, .int v6), (7, .int v7), (8, .int v8)] [] (hp g) Q := by
  unfold k_Layout_layFlow_94 at e
  refine wp_p (j := J_Layout_layFlow) 2 (pc' := 97) (lv' := [(0, .ref v0), (1, .int v1), (2, .ref v2), (3, .int v3), (4, va_rf v4), (5, .int v5), (6, .int v6), (7, .int v7), (8, .int v8)]) (st' := [.ref v0, .int v6]) rfl ?_
  refine x_gQ e rfl rfl fd_5_0 rfl (fun z1 e => ?_)
  refine x_gQ e rfl rfl fd_10_0 rfl (fun z2 e => ?_)
  refine wp_p (j := J_Layout_layFlow) 1 (pc' := 105) (lv' := [(0, .ref v0), (1, .int v1), (2, .ref v2), (3, .int v3), (4, va_rf v4), (5, .int v5), (6, .int v6), (7, .int v7), (8, .int v8)]) (st' := [.int v8, .ref z2, .int v6]) rfl ?_
  refine x_aQ e rfl rfl rfl (fun z3 e => ?_)
  refine x_gI e rfl rfl fd_7_9 rfl (fun z4 e => ?_)
  refine x_mx rfl rfl ?_
  refine wp_p (j := J_Layout_layFlow) 4 (pc' := 51) (lv' := [(7, .int (v7 + 1)), (6, .int (mx v6 z4)), (0, .ref v0), (1, .int v1), (2, .ref v2), (3, .int v3), (4, va_rf v4), (5, .int v5), (8, .int v8)]) (st' := []) rfl ?_
  have e := Option.some.inj e; subst e; exact wp_lv (lv' := [(0, .ref v0), (1, .int v1), (2, .ref v2), (3, .int v3), (4, va_rf v4), (5, .int v5), (6, .int (mx v6 z4)), (7, .int (v7 + 1))]) rfl ⟨rfl, rfl, rfl, rfl, rfl, rfl, rfl, rfl, trivial⟩ c
noncomputable def b_Layout_layFlow_51 (v0 : Nat) (v1 : Int32) (v2 : Nat) (v5 : Int32) (v3 : Int32) (v4 : Option Nat) (v6 : Int32) (v7 : Int32) (g : g_S) : Option ((Int32 × (Option Nat) × Int32 × Int32 × g_S) ⊕ ((Option Nat) × g_S)) :=
  if v7 < v5 then
    (rQ g 105 v0 0).bind fun z1 =>
    (rQ g 110 z1 2).bind fun z2 =>
    (aI g 0 z2 v7).bind fun z3 =>
    (rQ g 105 v0 2).bind fun z4 =>
    (aQ g 8 z4 z3).bind fun z5 =>
    if v7 < v6 then
      k_Layout_layFlow_94 v0 v1 v2 v3 v4 v5 v6 v7 z3 g
    else
      (rI g 103 z5 0).bind fun z6 =>
      if z6 = 0 then
        k_Layout_layFlow_94 v0 v1 v2 v3 v4 v5 v6 v7 z3 g
      else
        (rI g 103 z5 0).bind fun z7 =>
        if z7 = 3 then
          k_Layout_layFlow_146 v0 v1 v2 v3 v4 v5 v7 z3 z5 (v7 + 1) g
        else
          (rQ g 105 v0 0).bind fun z8 =>
          (rQ g 110 z8 0).bind fun z9 =>
          (aQ g 5 z9 z3).bind fun z10 =>
          (rI g 107 z10 9).bind fun z11 =>
          k_Layout_layFlow_146 v0 v1 v2 v3 v4 v5 v7 z3 z5 z11 g
  else
    some (.inr (v4, g))
set_option maxRecDepth 20000 in
theorem y_Layout_layFlow_51 {L : Nat} {xs : Nat → Int32} {Q : Option Value → ab_H → Prop} {v0 : Nat} {v1 : Int32} {v2 : Nat} {v5 : Int32} {v3 : Int32} {v4 : Option Nat} {v6 : Int32} {v7 : Int32} {g : g_S} {out : (Int32 × (Option Nat) × Int32 × Int32 × g_S) ⊕ ((Option Nat) × g_S)} (e : b_Layout_layFlow_51 v0 v1 v2 v5 v3 v4 v6 v7 g = some out) (c : cL_Layout_layFlow_51 L xs Q v0 v1 v2 v5 out) : wp (ab_ext L xs) J_Layout_layFlow 51 [(0, .ref v0), (1, .int v1), (2, .ref v2), (3, .int v3), (4, va_rf v4), (5, .int v5), (6, .int v6), (7, .int v7)] [] (hp g) Q := by
  unfold b_Layout_layFlow_51 at e
  refine wp_p (j := J_Layout_layFlow) 2 (pc' := 55) (lv' := [(0, .ref v0), (1, .int v1), (2, .ref v2), (3, .int v3), (4, va_rf v4), (5, .int v5), (6, .int v6), (7, .int v7)]) (st' := [.int v5, .int v7]) rfl ?_
  refine x_ge e rfl (fun e => ?_) (fun e => ?_)
  · refine wp_p (j := J_Layout_layFlow) 1 (pc' := 59) (lv' := [(0, .ref v0), (1, .int v1), (2, .ref v2), (3, .int v3), (4, va_rf v4), (5, .int v5), (6, .int v6), (7, .int v7)]) (st' := [.ref v0]) rfl ?_
    refine x_gQ e rfl rfl fd_5_0 rfl (fun z1 e => ?_)
    refine x_gQ e rfl rfl fd_10_2 rfl (fun z2 e => ?_)
    refine wp_p (j := J_Layout_layFlow) 1 (pc' := 67) (lv' := [(0, .ref v0), (1, .int v1), (2, .ref v2), (3, .int v3), (4, va_rf v4), (5, .int v5), (6, .int v6), (7, .int v7)]) (st' := [.int v7, .ref z2]) rfl ?_
    refine x_aI e rfl rfl (fun z3 e => ?_)
    refine wp_p (j := J_Layout_layFlow) 2 (pc' := 71) (lv' := [(8, .int z3), (0, .ref v0), (1, .int v1), (2, .ref v2), (3, .int v3), (4, va_rf v4), (5, .int v5), (6, .int v6), (7, .int v7)]) (st' := [.ref v0]) rfl ?_
    refine x_gQ e rfl rfl fd_5_2 rfl (fun z4 e => ?_)
    refine wp_p (j := J_Layout_layFlow) 1 (pc' := 76) (lv' := [(8, .int z3), (0, .ref v0), (1, .int v1), (2, .ref v2), (3, .int v3), (4, va_rf v4), (5, .int v5), (6, .int v6), (7, .int v7)]) (st' := [.int z3, .ref z4]) rfl ?_
    refine x_aQ e rfl rfl rfl (fun z5 e => ?_)
    refine wp_p (j := J_Layout_layFlow) 3 (pc' := 83) (lv' := [(9, .ref z5), (8, .int z3), (0, .ref v0), (1, .int v1), (2, .ref v2), (3, .int v3), (4, va_rf v4), (5, .int v5), (6, .int v6), (7, .int v7)]) (st' := [.int v6, .int v7]) rfl ?_
    refine x_lt e rfl (fun e => ?_) (fun e => ?_)
    · exact wp_lv (lv' := [(0, .ref v0), (1, .int v1), (2, .ref v2), (3, .int v3), (4, va_rf v4), (5, .int v5), (6, .int v6), (7, .int v7), (8, .int z3)]) rfl ⟨rfl, rfl, rfl, rfl, rfl, rfl, rfl, rfl, rfl, trivial⟩ (x_Layout_layFlow_94 e c)
    · refine wp_p (j := J_Layout_layFlow) 1 (pc' := 88) (lv' := [(9, .ref z5), (8, .int z3), (0, .ref v0), (1, .int v1), (2, .ref v2), (3, .int v3), (4, va_rf v4), (5, .int v5), (6, .int v6), (7, .int v7)]) (st' := [.ref z5]) rfl ?_
      refine x_gI e rfl rfl fd_3_0 rfl (fun z6 e => ?_)
      refine z_ne e rfl (fun e => ?_) (fun e => ?_)
      · exact wp_lv (lv' := [(0, .ref v0), (1, .int v1), (2, .ref v2), (3, .int v3), (4, va_rf v4), (5, .int v5), (6, .int v6), (7, .int v7), (8, .int z3)]) rfl ⟨rfl, rfl, rfl, rfl, rfl, rfl, rfl, rfl, rfl, trivial⟩ (x_Layout_layFlow_94 e c)
      · refine wp_p (j := J_Layout_layFlow) 1 (pc' := 119) (lv' := [(9, .ref z5), (8, .int z3), (0, .ref v0), (1, .int v1), (2, .ref v2), (3, .int v3), (4, va_rf v4), (5, .int v5), (6, .int v6), (7, .int v7)]) (st' := [.ref z5]) rfl ?_
        refine x_gI e rfl rfl fd_3_0 rfl (fun z7 e => ?_)
        refine wp_p (j := J_Layout_layFlow) 1 (pc' := 123) (lv' := [(9, .ref z5), (8, .int z3), (0, .ref v0), (1, .int v1), (2, .ref v2), (3, .int v3), (4, va_rf v4), (5, .int v5), (6, .int v6), (7, .int v7)]) (st' := [.int 3, .int z7]) rfl ?_
        refine x_ne e rfl (fun e => ?_) (fun e => ?_)
        · refine wp_p (j := J_Layout_layFlow) 4 (pc' := 146) (lv' := [(9, .ref z5), (8, .int z3), (0, .ref v0), (1, .int v1), (2, .ref v2), (3, .int v3), (4, va_rf v4), (5, .int v5), (6, .int v6), (7, .int v7)]) (st' := [.int (v7 + 1)]) rfl ?_
          exact wp_lv (lv' := [(0, .ref v0), (1, .int v1), (2, .ref v2), (3, .int v3), (4, va_rf v4), (5, .int v5), (7, .int v7), (8, .int z3), (9, .ref z5)]) rfl ⟨rfl, rfl, rfl, rfl, rfl, rfl, rfl, rfl, rfl, trivial⟩ (x_Layout_layFlow_146 e c)
        · refine wp_p (j := J_Layout_layFlow) 1 (pc' := 134) (lv' := [(9, .ref z5), (8, .int z3), (0, .ref v0), (1, .int v1), (2, .ref v2), (3, .int v3), (4, va_rf v4), (5, .int v5), (6, .int v6), (7, .int v7)]) (st' := [.ref v0]) rfl ?_
          refine x_gQ e rfl rfl fd_5_0 rfl (fun z8 e => ?_)
          refine x_gQ e rfl rfl fd_10_0 rfl (fun z9 e => ?_)
          refine wp_p (j := J_Layout_layFlow) 1 (pc' := 142) (lv' := [(9, .ref z5), (8, .int z3), (0, .ref v0), (1, .int v1), (2, .ref v2), (3, .int v3), (4, va_rf v4), (5, .int v5), (6, .int v6), (7, .int v7)]) (st' := [.int z3, .ref z9]) rfl ?_
          refine x_aQ e rfl rfl rfl (fun z10 e => ?_)
          refine x_gI e rfl rfl fd_7_9 rfl (fun z11 e => ?_)
          exact wp_lv (lv' := [(0, .ref v0), (1, .int v1), (2, .ref v2), (3, .int v3), (4, va_rf v4), (5, .int v5), (7, .int v7), (8, .int z3), (9, .ref z5)]) rfl ⟨rfl, rfl, rfl, rfl, rfl, rfl, rfl, rfl, rfl, trivial⟩ (x_Layout_layFlow_146 e c)
  · have e := Option.some.inj e; subst e; exact wp_lv (lv' := [(0, .ref v0), (1, .int v1), (2, .ref v2), (4, va_rf v4)]) rfl ⟨rfl, rfl, rfl, rfl, trivial⟩ c
noncomputable def L_Layout_layFlow_51 (v0 : Nat) (v1 : Int32) (v2 : Nat) (v5 : Int32) (v3 : Int32) (v4 : Option Nat) (v6 : Int32) (v7 : Int32) (g : g_S) : Option ((Option Nat) × g_S) := it (fun s : Int32 × (Option Nat) × Int32 × Int32 × g_S => b_Layout_layFlow_51 v0 v1 v2 v5 s.1 s.2.1 s.2.2.1 s.2.2.2.1 s.2.2.2.2) (v3, v4, v6, v7, g)
theorem l_Layout_layFlow_51 {L : Nat} {xs : Nat → Int32} {Q : Option Value → ab_H → Prop} {v0 : Nat} {v1 : Int32} {v2 : Nat} {v5 : Int32} {v3 : Int32} {v4 : Option Nat} {v6 : Int32} {v7 : Int32} {g : g_S} {r : (Option Nat) × g_S} (e : L_Layout_layFlow_51 v0 v1 v2 v5 v3 v4 v6 v7 g = some r) (c : cL_Layout_layFlow_51 L xs Q v0 v1 v2 v5 (.inr r)) : wp (ab_ext L xs) J_Layout_layFlow 51 [(0, .ref v0), (1, .int v1), (2, .ref v2), (3, .int v3), (4, va_rf v4), (5, .int v5), (6, .int v6), (7, .int v7)] [] (hp g) Q :=
  it_wp (P := fun s : Int32 × (Option Nat) × Int32 × Int32 × g_S => wp (ab_ext L xs) J_Layout_layFlow 51 [(0, .ref v0), (1, .int v1), (2, .ref v2), (3, .int s.1), (4, va_rf s.2.1), (5, .int v5), (6, .int s.2.2.1), (7, .int s.2.2.2.1)] [] (hp s.2.2.2.2) Q) (E := fun r => cL_Layout_layFlow_51 L xs Q v0 v1 v2 v5 (.inr r)) (fun s out e c => y_Layout_layFlow_51 e (by cases out <;> exact c)) e c
theorem L_Layout_layFlow_51_eq (v0 : Nat) (v1 : Int32) (v2 : Nat) (v5 : Int32) (v3 : Int32) (v4 : Option Nat) (v6 : Int32) (v7 : Int32) (g : g_S) : L_Layout_layFlow_51 v0 v1 v2 v5 v3 v4 v6 v7 g = itc (b_Layout_layFlow_51 v0 v1 v2 v5 v3 v4 v6 v7 g) (fun s => L_Layout_layFlow_51 v0 v1 v2 v5 s.1 s.2.1 s.2.2.1 s.2.2.2.1 s.2.2.2.2) := it_eq2 (fun s : Int32 × (Option Nat) × Int32 × Int32 × g_S => b_Layout_layFlow_51 v0 v1 v2 v5 s.1 s.2.1 s.2.2.1 s.2.2.2.1 s.2.2.2.2) (v3, v4, v6, v7, g)
noncomputable def k_Layout_layFlow_379 (v0 : Nat) (v1 : Int32) (v2 : Nat) (g : g_S) : Option g_S :=
  (rI g 105 v0 11).bind fun z1 =>
  (rI g 105 v0 19).bind fun z2 =>
  (rI g 103 v2 8).bind fun z3 =>
  (vc g 105 v0 (M_Layout_setHeight v0 v1 v2 ((mx z1 z2) - z3) g)).bind fun g4 =>
  some g4
set_option maxRecDepth 20000 in
theorem x_Layout_layFlow_379 {L : Nat} {xs : Nat → Int32} {Q : Option Value → ab_H → Prop} {v0 : Nat} {v1 : Int32} {v2 : Nat} {g : g_S} {out : g_S} (e : k_Layout_layFlow_379 v0 v1 v2 g = some out) (c : Q none (hp out)) : wp (ab_ext L xs) J_Layout_layFlow 379 [(0, .ref v0), (1, .int v1), (2, .ref v2)] [] (hp g) Q := by
  unfold k_Layout_layFlow_379 at e
  refine wp_p (j := J_Layout_layFlow) 4 (pc' := 383) (lv' := [(0, .ref v0), (1, .int v1), (2, .ref v2)]) (st' := [.ref v0, .ref v2, .int v1, .ref v0]) rfl ?_
  refine x_gI e rfl rfl fd_5_11 rfl (fun z1 e => ?_)
  refine wp_p (j := J_Layout_layFlow) 1 (pc' := 387) (lv' := [(0, .ref v0), (1, .int v1), (2, .ref v2)]) (st' := [.ref v0, .int z1, .ref v2, .int v1, .ref v0]) rfl ?_
  refine x_gI e rfl rfl fd_5_19 rfl (fun z2 e => ?_)
  refine x_mx rfl rfl ?_
  refine wp_p (j := J_Layout_layFlow) 1 (pc' := 394) (lv' := [(0, .ref v0), (1, .int v1), (2, .ref v2)]) (st' := [.ref v2, .int (mx z1 z2), .ref v2, .int v1, .ref v0]) rfl ?_
  refine x_gI e rfl rfl fd_3_8 rfl (fun z3 e => ?_)
  refine wp_p (j := J_Layout_layFlow) 1 (pc' := 398) (lv' := [(0, .ref v0), (1, .int v1), (2, .ref v2)]) (st' := [.int ((mx z1 z2) - z3), .ref v2, .int v1, .ref v0]) rfl ?_
  refine x_cv0 (As := [.int v1, .ref v2, .int ((mx z1 z2) - z3)]) (rest := []) e rfl rfl rfl rfl rfl rfl (fun h => d_Layout_setHeight h ⟨rfl, rfl⟩) (fun g4 e => ?_)
  have e := Option.some.inj e; subst e; exact wp_vret rfl rfl c
noncomputable def M_Layout_layFlow (v0 : Nat) (v1 : Int32) (g : g_S) : Option g_S :=
  (rQ g 105 v0 2).bind fun z1 =>
  (aQ g 8 z1 v1).bind fun z2 =>
  (vc g 105 v0 (M_Layout_startFlow v0 z2 g)).bind fun g3 =>
  (rQ g3 105 v0 0).bind fun z4 =>
  (rQ g3 110 z4 0).bind fun z5 =>
  (aQ g3 5 z5 v1).bind fun z6 =>
  (rI g3 107 z6 9).bind fun z7 =>
  (rQ g3 105 v0 0).bind fun z8 =>
  (rQ g3 110 z8 0).bind fun z9 =>
  (aQ g3 5 z9 v1).bind fun z10 =>
  (rI g3 107 z10 8).bind fun z11 =>
  (L_Layout_layFlow_51 v0 v1 z2 z7 1 none (z11 + 1) (z11 + 1) g3).bind <| u2 fun z14 g15 =>
  (vc g15 105 v0 (M_Layout_closeLine v0 g15)).bind fun g16 =>
  oc z14
    (fun q17 =>
    (rI g16 103 z2 17).bind fun z18 =>
    if z18 = 0 then
      (rI g16 105 v0 11).bind fun z19 =>
      (rI g16 103 q17 15).bind fun z20 =>
      (wI g16 105 v0 11 (z19 + z20)).bind fun g21 =>
      k_Layout_layFlow_379 v0 v1 z2 g21
    else
      k_Layout_layFlow_379 v0 v1 z2 g16)
    (
    k_Layout_layFlow_379 v0 v1 z2 g16)
set_option maxRecDepth 20000 in
theorem d_Layout_layFlow {L : Nat} {xs : Nat → Int32} {Q : Option Value → ab_H → Prop} {v0 : Nat} {v1 : Int32} {g : g_S} {out : g_S} (e : M_Layout_layFlow v0 v1 g = some out) (c : Q none (hp out)) : mw (ab_ext L xs) J_Layout_layFlow [.ref v0, .int v1] (hp g) Q := by
  unfold M_Layout_layFlow at e
  refine wp_p (j := J_Layout_layFlow) 1 (pc' := 1) (lv' := [(0, .ref v0), (1, .int v1)]) (st' := [.ref v0]) rfl ?_
  refine x_gQ e rfl rfl fd_5_2 rfl (fun z1 e => ?_)
  refine wp_p (j := J_Layout_layFlow) 1 (pc' := 5) (lv' := [(0, .ref v0), (1, .int v1)]) (st' := [.int v1, .ref z1]) rfl ?_
  refine x_aQ e rfl rfl rfl (fun z2 e => ?_)
  refine wp_p (j := J_Layout_layFlow) 3 (pc' := 9) (lv' := [(2, .ref z2), (0, .ref v0), (1, .int v1)]) (st' := [.ref z2, .ref v0]) rfl ?_
  refine x_cv0 (As := [.ref z2]) (rest := []) e rfl rfl rfl rfl rfl rfl (fun h => d_Layout_startFlow h ⟨rfl, rfl⟩) (fun g3 e => ?_)
  refine wp_p (j := J_Layout_layFlow) 5 (pc' := 18) (lv' := [(4, .null), (3, .int 1), (2, .ref z2), (0, .ref v0), (1, .int v1)]) (st' := [.ref v0]) rfl ?_
  refine x_gQ e rfl rfl fd_5_0 rfl (fun z4 e => ?_)
  refine x_gQ e rfl rfl fd_10_0 rfl (fun z5 e => ?_)
  refine wp_p (j := J_Layout_layFlow) 1 (pc' := 25) (lv' := [(4, .null), (3, .int 1), (2, .ref z2), (0, .ref v0), (1, .int v1)]) (st' := [.int v1, .ref z5]) rfl ?_
  refine x_aQ e rfl rfl rfl (fun z6 e => ?_)
  refine x_gI e rfl rfl fd_7_9 rfl (fun z7 e => ?_)
  refine wp_p (j := J_Layout_layFlow) 2 (pc' := 32) (lv' := [(5, .int z7), (4, .null), (3, .int 1), (2, .ref z2), (0, .ref v0), (1, .int v1)]) (st' := [.ref v0]) rfl ?_
  refine x_gQ e rfl rfl fd_5_0 rfl (fun z8 e => ?_)
  refine x_gQ e rfl rfl fd_10_0 rfl (fun z9 e => ?_)
  refine wp_p (j := J_Layout_layFlow) 1 (pc' := 39) (lv' := [(5, .int z7), (4, .null), (3, .int 1), (2, .ref z2), (0, .ref v0), (1, .int v1)]) (st' := [.int v1, .ref z9]) rfl ?_
  refine x_aQ e rfl rfl rfl (fun z10 e => ?_)
  refine x_gI e rfl rfl fd_7_8 rfl (fun z11 e => ?_)
  refine wp_p (j := J_Layout_layFlow) 5 (pc' := 51) (lv' := [(7, .int (z11 + 1)), (6, .int (z11 + 1)), (5, .int z7), (4, .null), (3, .int 1), (2, .ref z2), (0, .ref v0), (1, .int v1)]) (st' := []) rfl ?_
  obtain ⟨s12, h13, e⟩ := bd e
  refine wp_lv (lv' := [(0, .ref v0), (1, .int v1), (2, .ref z2), (3, .int 1), (4, va_rf none), (5, .int z7), (6, .int (z11 + 1)), (7, .int (z11 + 1))]) rfl ⟨rfl, rfl, rfl, rfl, rfl, rfl, rfl, rfl, trivial⟩ ?_
  refine l_Layout_layFlow_51 h13 ?_
  obtain ⟨z14, g15⟩ := s12
  replace e := u2_e e
  show wp (ab_ext L xs) J_Layout_layFlow 349 [(0, .ref v0), (1, .int v1), (2, .ref z2), (4, va_rf z14)] [] (hp g15) Q
  refine wp_p (j := J_Layout_layFlow) 1 (pc' := 350) (lv' := [(0, .ref v0), (1, .int v1), (2, .ref z2), (4, va_rf z14)]) (st' := [.ref v0]) rfl ?_
  refine x_cv0 (As := []) (rest := []) e rfl rfl rfl rfl rfl rfl (fun h => d_Layout_closeLine h ⟨rfl, rfl⟩) (fun g16 e => ?_)
  rcases z14 with _ | q17
  · replace e := oc_n e
    show wp (ab_ext L xs) J_Layout_layFlow 353 [(0, .ref v0), (1, .int v1), (2, .ref z2), (4, .null)] [] (hp g16) Q
    refine wp_p (j := J_Layout_layFlow) 1 (pc' := 355) (lv' := [(0, .ref v0), (1, .int v1), (2, .ref z2), (4, .null)]) (st' := [.null]) rfl ?_
    refine wp_b (pc' := 379) (st' := []) rfl rfl rfl ?_
    exact wp_lv (lv' := [(0, .ref v0), (1, .int v1), (2, .ref z2)]) rfl ⟨rfl, rfl, rfl, trivial⟩ (x_Layout_layFlow_379 e c)
  · replace e := oc_s e
    show wp (ab_ext L xs) J_Layout_layFlow 353 [(0, .ref v0), (1, .int v1), (2, .ref z2), (4, .ref q17)] [] (hp g16) Q
    refine wp_p (j := J_Layout_layFlow) 1 (pc' := 355) (lv' := [(0, .ref v0), (1, .int v1), (2, .ref z2), (4, .ref q17)]) (st' := [.ref q17]) rfl ?_
    refine wp_b (pc' := 358) (st' := []) rfl rfl rfl ?_
    refine wp_p (j := J_Layout_layFlow) 1 (pc' := 359) (lv' := [(0, .ref v0), (1, .int v1), (2, .ref z2), (4, .ref q17)]) (st' := [.ref z2]) rfl ?_
    refine x_gI e rfl rfl fd_3_17 rfl (fun z18 e => ?_)
    refine z_ne e rfl (fun e => ?_) (fun e => ?_)
    · refine wp_p (j := J_Layout_layFlow) 2 (pc' := 367) (lv' := [(0, .ref v0), (1, .int v1), (2, .ref z2), (4, .ref q17)]) (st' := [.ref v0, .ref v0]) rfl ?_
      refine x_gI e rfl rfl fd_5_11 rfl (fun z19 e => ?_)
      refine wp_p (j := J_Layout_layFlow) 1 (pc' := 372) (lv' := [(0, .ref v0), (1, .int v1), (2, .ref z2), (4, .ref q17)]) (st' := [.ref q17, .int z19, .ref v0]) rfl ?_
      refine x_gI e rfl rfl fd_3_15 rfl (fun z20 e => ?_)
      refine wp_p (j := J_Layout_layFlow) 1 (pc' := 376) (lv' := [(0, .ref v0), (1, .int v1), (2, .ref z2), (4, .ref q17)]) (st' := [.int (z19 + z20), .ref v0]) rfl ?_
      refine x_pI e rfl rfl fw_5_11 rfl (fun g21 e => ?_)
      exact wp_lv (lv' := [(0, .ref v0), (1, .int v1), (2, .ref z2)]) rfl ⟨rfl, rfl, rfl, trivial⟩ (x_Layout_layFlow_379 e c)
    · exact wp_lv (lv' := [(0, .ref v0), (1, .int v1), (2, .ref z2)]) rfl ⟨rfl, rfl, rfl, trivial⟩ (x_Layout_layFlow_379 e c)
def cL_Layout_moveToHolder_57 (L : Nat) (xs : Nat → Int32) (Q : Option Value → ab_H → Prop) (v0 : Nat) (v1 : Nat) (v2 : Nat) (out : (Int32 × g_S) ⊕ (g_S)) : Prop := match out with
  | .inl s => wp (ab_ext L xs) J_Layout_moveToHolder 57 [(0, .ref v0), (1, .ref v1), (2, .ref v2), (3, .int s.1)] [] (hp s.2) Q
  | .inr s => wp (ab_ext L xs) J_Layout_moveToHolder 112 [] [] (hp s) Q
noncomputable def b_Layout_moveToHolder_57 (v0 : Nat) (v1 : Nat) (v2 : Nat) (v3 : Int32) (g : g_S) : Option ((Int32 × g_S) ⊕ (g_S)) :=
  (rI g 103 v1 18).bind fun z1 =>
  (rI g 103 v1 19).bind fun z2 =>
  if v3 < (z1 + z2) then
    (rQ g 105 v0 5).bind fun z3 =>
    (aI g 0 z3 ((v3 * 6) + 3)).bind fun z4 =>
    (rI g 103 v2 2).bind fun z5 =>
    (sI g z3 ((v3 * 6) + 3) (z4 + z5)).bind fun g6 =>
    (rQ g6 105 v0 5).bind fun z7 =>
    (aI g6 0 z7 ((v3 * 6) + 4)).bind fun z8 =>
    (rI g6 103 v2 3).bind fun z9 =>
    (sI g6 z7 ((v3 * 6) + 4) (z8 + z9)).bind fun g10 =>
    some (.inl (v3 + 1, g10))
  else
    some (.inr g)
set_option maxRecDepth 20000 in
theorem y_Layout_moveToHolder_57 {L : Nat} {xs : Nat → Int32} {Q : Option Value → ab_H → Prop} {v0 : Nat} {v1 : Nat} {v2 : Nat} {v3 : Int32} {g : g_S} {out : (Int32 × g_S) ⊕ (g_S)} (e : b_Layout_moveToHolder_57 v0 v1 v2 v3 g = some out) (c : cL_Layout_moveToHolder_57 L xs Q v0 v1 v2 out) : wp (ab_ext L xs) J_Layout_moveToHolder 57 [(0, .ref v0), (1, .ref v1), (2, .ref v2), (3, .int v3)] [] (hp g) Q := by
  unfold b_Layout_moveToHolder_57 at e
  refine wp_p (j := J_Layout_moveToHolder) 2 (pc' := 59) (lv' := [(0, .ref v0), (1, .ref v1), (2, .ref v2), (3, .int v3)]) (st' := [.ref v1, .int v3]) rfl ?_
  refine x_gI e rfl rfl fd_3_18 rfl (fun z1 e => ?_)
  refine wp_p (j := J_Layout_moveToHolder) 1 (pc' := 63) (lv' := [(0, .ref v0), (1, .ref v1), (2, .ref v2), (3, .int v3)]) (st' := [.ref v1, .int z1, .int v3]) rfl ?_
  refine x_gI e rfl rfl fd_3_19 rfl (fun z2 e => ?_)
  refine wp_p (j := J_Layout_moveToHolder) 1 (pc' := 67) (lv' := [(0, .ref v0), (1, .ref v1), (2, .ref v2), (3, .int v3)]) (st' := [.int (z1 + z2), .int v3]) rfl ?_
  refine x_ge e rfl (fun e => ?_) (fun e => ?_)
  · refine wp_p (j := J_Layout_moveToHolder) 1 (pc' := 71) (lv' := [(0, .ref v0), (1, .ref v1), (2, .ref v2), (3, .int v3)]) (st' := [.ref v0]) rfl ?_
    refine x_gQ e rfl rfl fd_5_5 rfl (fun z3 e => ?_)
    refine wp_p (j := J_Layout_moveToHolder) 6 (pc' := 81) (lv' := [(0, .ref v0), (1, .ref v1), (2, .ref v2), (3, .int v3)]) (st' := [.int ((v3 * 6) + 3), .ref z3, .int ((v3 * 6) + 3), .ref z3]) rfl ?_
    refine x_aI e rfl rfl (fun z4 e => ?_)
    refine wp_p (j := J_Layout_moveToHolder) 1 (pc' := 83) (lv' := [(0, .ref v0), (1, .ref v1), (2, .ref v2), (3, .int v3)]) (st' := [.ref v2, .int z4, .int ((v3 * 6) + 3), .ref z3]) rfl ?_
    refine x_gI e rfl rfl fd_3_2 rfl (fun z5 e => ?_)
    refine wp_p (j := J_Layout_moveToHolder) 1 (pc' := 87) (lv' := [(0, .ref v0), (1, .ref v1), (2, .ref v2), (3, .int v3)]) (st' := [.int (z4 + z5), .int ((v3 * 6) + 3), .ref z3]) rfl ?_
    refine x_sI e rfl rfl (fun g6 e => ?_)
    refine wp_p (j := J_Layout_moveToHolder) 1 (pc' := 89) (lv' := [(0, .ref v0), (1, .ref v1), (2, .ref v2), (3, .int v3)]) (st' := [.ref v0]) rfl ?_
    refine x_gQ e rfl rfl fd_5_5 rfl (fun z7 e => ?_)
    refine wp_p (j := J_Layout_moveToHolder) 6 (pc' := 99) (lv' := [(0, .ref v0), (1, .ref v1), (2, .ref v2), (3, .int v3)]) (st' := [.int ((v3 * 6) + 4), .ref z7, .int ((v3 * 6) + 4), .ref z7]) rfl ?_
    refine x_aI e rfl rfl (fun z8 e => ?_)
    refine wp_p (j := J_Layout_moveToHolder) 1 (pc' := 101) (lv' := [(0, .ref v0), (1, .ref v1), (2, .ref v2), (3, .int v3)]) (st' := [.ref v2, .int z8, .int ((v3 * 6) + 4), .ref z7]) rfl ?_
    refine x_gI e rfl rfl fd_3_3 rfl (fun z9 e => ?_)
    refine wp_p (j := J_Layout_moveToHolder) 1 (pc' := 105) (lv' := [(0, .ref v0), (1, .ref v1), (2, .ref v2), (3, .int v3)]) (st' := [.int (z8 + z9), .int ((v3 * 6) + 4), .ref z7]) rfl ?_
    refine x_sI e rfl rfl (fun g10 e => ?_)
    refine wp_p (j := J_Layout_moveToHolder) 2 (pc' := 57) (lv' := [(3, .int (v3 + 1)), (0, .ref v0), (1, .ref v1), (2, .ref v2)]) (st' := []) rfl ?_
    have e := Option.some.inj e; subst e; exact wp_lv (lv' := [(0, .ref v0), (1, .ref v1), (2, .ref v2), (3, .int (v3 + 1))]) rfl ⟨rfl, rfl, rfl, rfl, trivial⟩ c
  · have e := Option.some.inj e; subst e; exact wp_lv (lv' := []) rfl trivial c
noncomputable def L_Layout_moveToHolder_57 (v0 : Nat) (v1 : Nat) (v2 : Nat) (v3 : Int32) (g : g_S) : Option (g_S) := it (fun s : Int32 × g_S => b_Layout_moveToHolder_57 v0 v1 v2 s.1 s.2) (v3, g)
theorem l_Layout_moveToHolder_57 {L : Nat} {xs : Nat → Int32} {Q : Option Value → ab_H → Prop} {v0 : Nat} {v1 : Nat} {v2 : Nat} {v3 : Int32} {g : g_S} {r : g_S} (e : L_Layout_moveToHolder_57 v0 v1 v2 v3 g = some r) (c : cL_Layout_moveToHolder_57 L xs Q v0 v1 v2 (.inr r)) : wp (ab_ext L xs) J_Layout_moveToHolder 57 [(0, .ref v0), (1, .ref v1), (2, .ref v2), (3, .int v3)] [] (hp g) Q :=
  it_wp (P := fun s : Int32 × g_S => wp (ab_ext L xs) J_Layout_moveToHolder 57 [(0, .ref v0), (1, .ref v1), (2, .ref v2), (3, .int s.1)] [] (hp s.2) Q) (E := fun r => cL_Layout_moveToHolder_57 L xs Q v0 v1 v2 (.inr r)) (fun s out e c => y_Layout_moveToHolder_57 e (by cases out <;> exact c)) e c
theorem L_Layout_moveToHolder_57_eq (v0 : Nat) (v1 : Nat) (v2 : Nat) (v3 : Int32) (g : g_S) : L_Layout_moveToHolder_57 v0 v1 v2 v3 g = itc (b_Layout_moveToHolder_57 v0 v1 v2 v3 g) (fun s => L_Layout_moveToHolder_57 v0 v1 v2 s.1 s.2) := it_eq2 (fun s : Int32 × g_S => b_Layout_moveToHolder_57 v0 v1 v2 s.1 s.2) (v3, g)
noncomputable def M_Layout_moveToHolder (v0 : Nat) (v1 : Nat) (g : g_S) : Option g_S :=
  (rI g 103 v1 0).bind fun z1 =>
  if z1 = 0 then
    some g
  else
    (rI g 103 v1 1).bind fun z2 =>
    if z2 = (-1) then
      some g
    else
      (rQ g 105 v0 2).bind fun z3 =>
      (rI g 103 v1 1).bind fun z4 =>
      (aQ g 8 z3 z4).bind fun z5 =>
      (rI g 103 v1 2).bind fun z6 =>
      (rI g 103 z5 2).bind fun z7 =>
      (wI g 103 v1 2 (z6 + z7)).bind fun g8 =>
      (rI g8 103 v1 3).bind fun z9 =>
      (rI g8 103 z5 3).bind fun z10 =>
      (wI g8 103 v1 3 (z9 + z10)).bind fun g11 =>
      (rI g11 103 v1 18).bind fun z12 =>
      (L_Layout_moveToHolder_57 v0 v1 z5 z12 g11).bind <| fun g15 =>
      some g15
set_option maxRecDepth 20000 in
theorem d_Layout_moveToHolder {L : Nat} {xs : Nat → Int32} {Q : Option Value → ab_H → Prop} {v0 : Nat} {v1 : Nat} {g : g_S} {out : g_S} (e : M_Layout_moveToHolder v0 v1 g = some out) (c : Q none (hp out)) : mw (ab_ext L xs) J_Layout_moveToHolder [.ref v0, .ref v1] (hp g) Q := by
  unfold M_Layout_moveToHolder at e
  refine wp_p (j := J_Layout_moveToHolder) 1 (pc' := 1) (lv' := [(0, .ref v0), (1, .ref v1)]) (st' := [.ref v1]) rfl ?_
  refine x_gI e rfl rfl fd_3_0 rfl (fun z1 e => ?_)
  refine z_eq e rfl (fun e => ?_) (fun e => ?_)
  · have e := Option.some.inj e; subst e; exact wp_vret rfl rfl c
  · refine wp_p (j := J_Layout_moveToHolder) 1 (pc' := 8) (lv' := [(0, .ref v0), (1, .ref v1)]) (st' := [.ref v1]) rfl ?_
    refine x_gI e rfl rfl fd_3_1 rfl (fun z2 e => ?_)
    refine wp_p (j := J_Layout_moveToHolder) 1 (pc' := 12) (lv' := [(0, .ref v0), (1, .ref v1)]) (st' := [.int (-1), .int z2]) rfl ?_
    refine x_ne e rfl (fun e => ?_) (fun e => ?_)
    · have e := Option.some.inj e; subst e; exact wp_vret rfl rfl c
    · refine wp_p (j := J_Layout_moveToHolder) 1 (pc' := 17) (lv' := [(0, .ref v0), (1, .ref v1)]) (st' := [.ref v0]) rfl ?_
      refine x_gQ e rfl rfl fd_5_2 rfl (fun z3 e => ?_)
      refine wp_p (j := J_Layout_moveToHolder) 1 (pc' := 21) (lv' := [(0, .ref v0), (1, .ref v1)]) (st' := [.ref v1, .ref z3]) rfl ?_
      refine x_gI e rfl rfl fd_3_1 rfl (fun z4 e => ?_)
      refine x_aQ e rfl rfl rfl (fun z5 e => ?_)
      refine wp_p (j := J_Layout_moveToHolder) 3 (pc' := 28) (lv' := [(2, .ref z5), (0, .ref v0), (1, .ref v1)]) (st' := [.ref v1, .ref v1]) rfl ?_
      refine x_gI e rfl rfl fd_3_2 rfl (fun z6 e => ?_)
      refine wp_p (j := J_Layout_moveToHolder) 1 (pc' := 32) (lv' := [(2, .ref z5), (0, .ref v0), (1, .ref v1)]) (st' := [.ref z5, .int z6, .ref v1]) rfl ?_
      refine x_gI e rfl rfl fd_3_2 rfl (fun z7 e => ?_)
      refine wp_p (j := J_Layout_moveToHolder) 1 (pc' := 36) (lv' := [(2, .ref z5), (0, .ref v0), (1, .ref v1)]) (st' := [.int (z6 + z7), .ref v1]) rfl ?_
      refine x_pI e rfl rfl fw_3_2 rfl (fun g8 e => ?_)
      refine wp_p (j := J_Layout_moveToHolder) 2 (pc' := 41) (lv' := [(2, .ref z5), (0, .ref v0), (1, .ref v1)]) (st' := [.ref v1, .ref v1]) rfl ?_
      refine x_gI e rfl rfl fd_3_3 rfl (fun z9 e => ?_)
      refine wp_p (j := J_Layout_moveToHolder) 1 (pc' := 45) (lv' := [(2, .ref z5), (0, .ref v0), (1, .ref v1)]) (st' := [.ref z5, .int z9, .ref v1]) rfl ?_
      refine x_gI e rfl rfl fd_3_3 rfl (fun z10 e => ?_)
      refine wp_p (j := J_Layout_moveToHolder) 1 (pc' := 49) (lv' := [(2, .ref z5), (0, .ref v0), (1, .ref v1)]) (st' := [.int (z9 + z10), .ref v1]) rfl ?_
      refine x_pI e rfl rfl fw_3_3 rfl (fun g11 e => ?_)
      refine wp_p (j := J_Layout_moveToHolder) 1 (pc' := 53) (lv' := [(2, .ref z5), (0, .ref v0), (1, .ref v1)]) (st' := [.ref v1]) rfl ?_
      refine x_gI e rfl rfl fd_3_18 rfl (fun z12 e => ?_)
      refine wp_p (j := J_Layout_moveToHolder) 1 (pc' := 57) (lv' := [(3, .int z12), (2, .ref z5), (0, .ref v0), (1, .ref v1)]) (st' := []) rfl ?_
      obtain ⟨g15, h14, e⟩ := bd e
      refine wp_lv (lv' := [(0, .ref v0), (1, .ref v1), (2, .ref z5), (3, .int z12)]) rfl ⟨rfl, rfl, rfl, rfl, trivial⟩ ?_
      refine l_Layout_moveToHolder_57 h14 ?_
      show wp (ab_ext L xs) J_Layout_moveToHolder 112 [] [] (hp g15) Q
      have e := Option.some.inj e; subst e; exact wp_vret rfl rfl c
def cL_Layout_refresh_40 (L : Nat) (xs : Nat → Int32) (Q : Option Value → ab_H → Prop) (v0 : Nat) (out : (Int32 × g_S) ⊕ (g_S)) : Prop := match out with
  | .inl s => wp (ab_ext L xs) J_Layout_refresh 40 [(0, .ref v0), (1, .int s.1)] [] (hp s.2) Q
  | .inr s => wp (ab_ext L xs) J_Layout_refresh 70 [(0, .ref v0)] [] (hp s) Q
noncomputable def b_Layout_refresh_40 (v0 : Nat) (v1 : Int32) (g : g_S) : Option ((Int32 × g_S) ⊕ (g_S)) :=
  (rQ g 105 v0 0).bind fun z1 =>
  (rI g 110 z1 3).bind fun z2 =>
  if v1 < z2 then
    (rQ g 105 v0 0).bind fun z3 =>
    (rQ g 110 z3 2).bind fun z4 =>
    (aI g 0 z4 v1).bind fun z5 =>
    (vc g 105 v0 (M_Layout_measure v0 z5 g)).bind fun g6 =>
    some (.inl (v1 + 1, g6))
  else
    some (.inr g)
set_option maxRecDepth 20000 in
theorem y_Layout_refresh_40 {L : Nat} {xs : Nat → Int32} {Q : Option Value → ab_H → Prop} {v0 : Nat} {v1 : Int32} {g : g_S} {out : (Int32 × g_S) ⊕ (g_S)} (e : b_Layout_refresh_40 v0 v1 g = some out) (c : cL_Layout_refresh_40 L xs Q v0 out) : wp (ab_ext L xs) J_Layout_refresh 40 [(0, .ref v0), (1, .int v1)] [] (hp g) Q := by
  unfold b_Layout_refresh_40 at e
  refine wp_p (j := J_Layout_refresh) 2 (pc' := 42) (lv' := [(0, .ref v0), (1, .int v1)]) (st' := [.ref v0, .int v1]) rfl ?_
  refine x_gQ e rfl rfl fd_5_0 rfl (fun z1 e => ?_)
  refine x_gI e rfl rfl fd_10_3 rfl (fun z2 e => ?_)
  refine x_ge e rfl (fun e => ?_) (fun e => ?_)
  · refine wp_p (j := J_Layout_refresh) 2 (pc' := 53) (lv' := [(0, .ref v0), (1, .int v1)]) (st' := [.ref v0, .ref v0]) rfl ?_
    refine x_gQ e rfl rfl fd_5_0 rfl (fun z3 e => ?_)
    refine x_gQ e rfl rfl fd_10_2 rfl (fun z4 e => ?_)
    refine wp_p (j := J_Layout_refresh) 1 (pc' := 60) (lv' := [(0, .ref v0), (1, .int v1)]) (st' := [.int v1, .ref z4, .ref v0]) rfl ?_
    refine x_aI e rfl rfl (fun z5 e => ?_)
    refine x_cv0 (As := [.int z5]) (rest := []) e rfl rfl rfl rfl rfl rfl (fun h => d_Layout_measure h ⟨rfl, rfl⟩) (fun g6 e => ?_)
    refine wp_p (j := J_Layout_refresh) 2 (pc' := 40) (lv' := [(1, .int (v1 + 1)), (0, .ref v0)]) (st' := []) rfl ?_
    have e := Option.some.inj e; subst e; exact wp_lv (lv' := [(0, .ref v0), (1, .int (v1 + 1))]) rfl ⟨rfl, rfl, trivial⟩ c
  · have e := Option.some.inj e; subst e; exact wp_lv (lv' := [(0, .ref v0)]) rfl ⟨rfl, trivial⟩ c
noncomputable def L_Layout_refresh_40 (v0 : Nat) (v1 : Int32) (g : g_S) : Option (g_S) := it (fun s : Int32 × g_S => b_Layout_refresh_40 v0 s.1 s.2) (v1, g)
theorem l_Layout_refresh_40 {L : Nat} {xs : Nat → Int32} {Q : Option Value → ab_H → Prop} {v0 : Nat} {v1 : Int32} {g : g_S} {r : g_S} (e : L_Layout_refresh_40 v0 v1 g = some r) (c : cL_Layout_refresh_40 L xs Q v0 (.inr r)) : wp (ab_ext L xs) J_Layout_refresh 40 [(0, .ref v0), (1, .int v1)] [] (hp g) Q :=
  it_wp (P := fun s : Int32 × g_S => wp (ab_ext L xs) J_Layout_refresh 40 [(0, .ref v0), (1, .int s.1)] [] (hp s.2) Q) (E := fun r => cL_Layout_refresh_40 L xs Q v0 (.inr r)) (fun s out e c => y_Layout_refresh_40 e (by cases out <;> exact c)) e c
theorem L_Layout_refresh_40_eq (v0 : Nat) (v1 : Int32) (g : g_S) : L_Layout_refresh_40 v0 v1 g = itc (b_Layout_refresh_40 v0 v1 g) (fun s => L_Layout_refresh_40 v0 s.1 s.2) := it_eq2 (fun s : Int32 × g_S => b_Layout_refresh_40 v0 s.1 s.2) (v1, g)
def cL_Layout_refresh_143 (L : Nat) (xs : Nat → Int32) (Q : Option Value → ab_H → Prop) (v0 : Nat) (out : (Int32 × g_S) ⊕ (g_S)) : Prop := match out with
  | .inl s => wp (ab_ext L xs) J_Layout_refresh 143 [(0, .ref v0), (1, .int s.1)] [] (hp s.2) Q
  | .inr s => wp (ab_ext L xs) J_Layout_refresh 178 [] [] (hp s) Q
noncomputable def b_Layout_refresh_143 (v0 : Nat) (v1 : Int32) (g : g_S) : Option ((Int32 × g_S) ⊕ (g_S)) :=
  (rQ g 105 v0 0).bind fun z1 =>
  (rI g 110 z1 3).bind fun z2 =>
  if v1 < z2 then
    (rQ g 105 v0 2).bind fun z3 =>
    (rQ g 105 v0 0).bind fun z4 =>
    (rQ g 110 z4 2).bind fun z5 =>
    (aI g 0 z5 v1).bind fun z6 =>
    (aQ g 8 z3 z6).bind fun z7 =>
    (vc g 105 v0 (M_Layout_moveToHolder v0 z7 g)).bind fun g8 =>
    some (.inl (v1 + 1, g8))
  else
    some (.inr g)
set_option maxRecDepth 20000 in
theorem y_Layout_refresh_143 {L : Nat} {xs : Nat → Int32} {Q : Option Value → ab_H → Prop} {v0 : Nat} {v1 : Int32} {g : g_S} {out : (Int32 × g_S) ⊕ (g_S)} (e : b_Layout_refresh_143 v0 v1 g = some out) (c : cL_Layout_refresh_143 L xs Q v0 out) : wp (ab_ext L xs) J_Layout_refresh 143 [(0, .ref v0), (1, .int v1)] [] (hp g) Q := by
  unfold b_Layout_refresh_143 at e
  refine wp_p (j := J_Layout_refresh) 2 (pc' := 145) (lv' := [(0, .ref v0), (1, .int v1)]) (st' := [.ref v0, .int v1]) rfl ?_
  refine x_gQ e rfl rfl fd_5_0 rfl (fun z1 e => ?_)
  refine x_gI e rfl rfl fd_10_3 rfl (fun z2 e => ?_)
  refine x_ge e rfl (fun e => ?_) (fun e => ?_)
  · refine wp_p (j := J_Layout_refresh) 2 (pc' := 156) (lv' := [(0, .ref v0), (1, .int v1)]) (st' := [.ref v0, .ref v0]) rfl ?_
    refine x_gQ e rfl rfl fd_5_2 rfl (fun z3 e => ?_)
    refine wp_p (j := J_Layout_refresh) 1 (pc' := 160) (lv' := [(0, .ref v0), (1, .int v1)]) (st' := [.ref v0, .ref z3, .ref v0]) rfl ?_
    refine x_gQ e rfl rfl fd_5_0 rfl (fun z4 e => ?_)
    refine x_gQ e rfl rfl fd_10_2 rfl (fun z5 e => ?_)
    refine wp_p (j := J_Layout_refresh) 1 (pc' := 167) (lv' := [(0, .ref v0), (1, .int v1)]) (st' := [.int v1, .ref z5, .ref z3, .ref v0]) rfl ?_
    refine x_aI e rfl rfl (fun z6 e => ?_)
    refine x_aQ e rfl rfl rfl (fun z7 e => ?_)
    refine x_cv0 (As := [.ref z7]) (rest := []) e rfl rfl rfl rfl rfl rfl (fun h => d_Layout_moveToHolder h ⟨rfl, rfl⟩) (fun g8 e => ?_)
    refine wp_p (j := J_Layout_refresh) 2 (pc' := 143) (lv' := [(1, .int (v1 + 1)), (0, .ref v0)]) (st' := []) rfl ?_
    have e := Option.some.inj e; subst e; exact wp_lv (lv' := [(0, .ref v0), (1, .int (v1 + 1))]) rfl ⟨rfl, rfl, trivial⟩ c
  · have e := Option.some.inj e; subst e; exact wp_lv (lv' := []) rfl trivial c
noncomputable def L_Layout_refresh_143 (v0 : Nat) (v1 : Int32) (g : g_S) : Option (g_S) := it (fun s : Int32 × g_S => b_Layout_refresh_143 v0 s.1 s.2) (v1, g)
theorem l_Layout_refresh_143 {L : Nat} {xs : Nat → Int32} {Q : Option Value → ab_H → Prop} {v0 : Nat} {v1 : Int32} {g : g_S} {r : g_S} (e : L_Layout_refresh_143 v0 v1 g = some r) (c : cL_Layout_refresh_143 L xs Q v0 (.inr r)) : wp (ab_ext L xs) J_Layout_refresh 143 [(0, .ref v0), (1, .int v1)] [] (hp g) Q :=
  it_wp (P := fun s : Int32 × g_S => wp (ab_ext L xs) J_Layout_refresh 143 [(0, .ref v0), (1, .int s.1)] [] (hp s.2) Q) (E := fun r => cL_Layout_refresh_143 L xs Q v0 (.inr r)) (fun s out e c => y_Layout_refresh_143 e (by cases out <;> exact c)) e c
theorem L_Layout_refresh_143_eq (v0 : Nat) (v1 : Int32) (g : g_S) : L_Layout_refresh_143 v0 v1 g = itc (b_Layout_refresh_143 v0 v1 g) (fun s => L_Layout_refresh_143 v0 s.1 s.2) := it_eq2 (fun s : Int32 × g_S => b_Layout_refresh_143 v0 s.1 s.2) (v1, g)
def cL_Layout_refresh_80 (L : Nat) (xs : Nat → Int32) (Q : Option Value → ab_H → Prop) (v0 : Nat) (out : (Int32 × g_S) ⊕ (g_S)) : Prop := match out with
  | .inl s => wp (ab_ext L xs) J_Layout_refresh 80 [(0, .ref v0), (1, .int s.1)] [] (hp s.2) Q
  | .inr s => wp (ab_ext L xs) J_Layout_refresh 141 [(0, .ref v0)] [] (hp s) Q
noncomputable def b_Layout_refresh_80 (v0 : Nat) (v1 : Int32) (g : g_S) : Option ((Int32 × g_S) ⊕ (g_S)) :=
  if v1 < 0 then
    some (.inr g)
  else
    (rQ g 105 v0 0).bind fun z1 =>
    (rQ g 110 z1 2).bind fun z2 =>
    (aI g 0 z2 v1).bind fun z3 =>
    (rQ g 105 v0 2).bind fun z4 =>
    (aQ g 8 z4 z3).bind fun z5 =>
    (rI g 103 z5 0).bind fun z6 =>
    if z6 = 1 then
      (vc g 105 v0 (M_Layout_joinMargins v0 z3 g)).bind fun g7 =>
      (vc g7 105 v0 (M_Layout_look v0 z3 0 g7)).bind fun z8 =>
      if z8 = 3 then
        (vc g7 105 v0 (M_Layout_layFlex v0 z3 g7)).bind fun g9 =>
        some (.inl (v1 + (-1), g9))
      else
        (vc g7 105 v0 (M_Layout_layFlow v0 z3 g7)).bind fun g10 =>
        some (.inl (v1 + (-1), g10))
    else
      some (.inl (v1 + (-1), g))
set_option maxRecDepth 20000 in
theorem y_Layout_refresh_80 {L : Nat} {xs : Nat → Int32} {Q : Option Value → ab_H → Prop} {v0 : Nat} {v1 : Int32} {g : g_S} {out : (Int32 × g_S) ⊕ (g_S)} (e : b_Layout_refresh_80 v0 v1 g = some out) (c : cL_Layout_refresh_80 L xs Q v0 out) : wp (ab_ext L xs) J_Layout_refresh 80 [(0, .ref v0), (1, .int v1)] [] (hp g) Q := by
  unfold b_Layout_refresh_80 at e
  refine wp_p (j := J_Layout_refresh) 1 (pc' := 81) (lv' := [(0, .ref v0), (1, .int v1)]) (st' := [.int v1]) rfl ?_
  refine z_lt e rfl (fun e => ?_) (fun e => ?_)
  · have e := Option.some.inj e; subst e; exact wp_lv (lv' := [(0, .ref v0)]) rfl ⟨rfl, trivial⟩ c
  · refine wp_p (j := J_Layout_refresh) 1 (pc' := 85) (lv' := [(0, .ref v0), (1, .int v1)]) (st' := [.ref v0]) rfl ?_
    refine x_gQ e rfl rfl fd_5_0 rfl (fun z1 e => ?_)
    refine x_gQ e rfl rfl fd_10_2 rfl (fun z2 e => ?_)
    refine wp_p (j := J_Layout_refresh) 1 (pc' := 92) (lv' := [(0, .ref v0), (1, .int v1)]) (st' := [.int v1, .ref z2]) rfl ?_
    refine x_aI e rfl rfl (fun z3 e => ?_)
    refine wp_p (j := J_Layout_refresh) 2 (pc' := 95) (lv' := [(2, .int z3), (0, .ref v0), (1, .int v1)]) (st' := [.ref v0]) rfl ?_
    refine x_gQ e rfl rfl fd_5_2 rfl (fun z4 e => ?_)
    refine wp_p (j := J_Layout_refresh) 1 (pc' := 99) (lv' := [(2, .int z3), (0, .ref v0), (1, .int v1)]) (st' := [.int z3, .ref z4]) rfl ?_
    refine x_aQ e rfl rfl rfl (fun z5 e => ?_)
    refine x_gI e rfl rfl fd_3_0 rfl (fun z6 e => ?_)
    refine wp_p (j := J_Layout_refresh) 1 (pc' := 104) (lv' := [(2, .int z3), (0, .ref v0), (1, .int v1)]) (st' := [.int 1, .int z6]) rfl ?_
    refine x_ne e rfl (fun e => ?_) (fun e => ?_)
    · refine wp_p (j := J_Layout_refresh) 2 (pc' := 109) (lv' := [(2, .int z3), (0, .ref v0), (1, .int v1)]) (st' := [.int z3, .ref v0]) rfl ?_
      refine x_cv0 (As := [.int z3]) (rest := []) e rfl rfl rfl rfl rfl rfl (fun h => d_Layout_joinMargins h ⟨rfl, rfl⟩) (fun g7 e => ?_)
      refine wp_p (j := J_Layout_refresh) 3 (pc' := 115) (lv' := [(2, .int z3), (0, .ref v0), (1, .int v1)]) (st' := [.int 0, .int z3, .ref v0]) rfl ?_
      refine x_cv1 (As := [.int z3, .int 0]) (rest := []) Value.int e rfl rfl rfl rfl rfl rfl (fun h => d_Layout_look h ⟨rfl, rfl⟩) (fun z8 e => ?_)
      refine wp_p (j := J_Layout_refresh) 1 (pc' := 119) (lv' := [(2, .int z3), (0, .ref v0), (1, .int v1)]) (st' := [.int 3, .int z8]) rfl ?_
      refine x_ne e rfl (fun e => ?_) (fun e => ?_)
      · refine wp_p (j := J_Layout_refresh) 2 (pc' := 124) (lv' := [(2, .int z3), (0, .ref v0), (1, .int v1)]) (st' := [.int z3, .ref v0]) rfl ?_
        refine x_cv0 (As := [.int z3]) (rest := []) e rfl rfl rfl rfl rfl rfl (fun h => d_Layout_layFlex h ⟨rfl, rfl⟩) (fun g9 e => ?_)
        refine wp_p (j := J_Layout_refresh) 3 (pc' := 80) (lv' := [(1, .int (v1 + (-1))), (2, .int z3), (0, .ref v0)]) (st' := []) rfl ?_
        have e := Option.some.inj e; subst e; exact wp_lv (lv' := [(0, .ref v0), (1, .int (v1 + (-1)))]) rfl ⟨rfl, rfl, trivial⟩ c
      · refine wp_p (j := J_Layout_refresh) 2 (pc' := 132) (lv' := [(2, .int z3), (0, .ref v0), (1, .int v1)]) (st' := [.int z3, .ref v0]) rfl ?_
        refine x_cv0 (As := [.int z3]) (rest := []) e rfl rfl rfl rfl rfl rfl (fun h => d_Layout_layFlow h ⟨rfl, rfl⟩) (fun g10 e => ?_)
        refine wp_p (j := J_Layout_refresh) 2 (pc' := 80) (lv' := [(1, .int (v1 + (-1))), (2, .int z3), (0, .ref v0)]) (st' := []) rfl ?_
        have e := Option.some.inj e; subst e; exact wp_lv (lv' := [(0, .ref v0), (1, .int (v1 + (-1)))]) rfl ⟨rfl, rfl, trivial⟩ c
    · refine wp_p (j := J_Layout_refresh) 2 (pc' := 80) (lv' := [(1, .int (v1 + (-1))), (2, .int z3), (0, .ref v0)]) (st' := []) rfl ?_
      have e := Option.some.inj e; subst e; exact wp_lv (lv' := [(0, .ref v0), (1, .int (v1 + (-1)))]) rfl ⟨rfl, rfl, trivial⟩ c
noncomputable def L_Layout_refresh_80 (v0 : Nat) (v1 : Int32) (g : g_S) : Option (g_S) := it (fun s : Int32 × g_S => b_Layout_refresh_80 v0 s.1 s.2) (v1, g)
theorem l_Layout_refresh_80 {L : Nat} {xs : Nat → Int32} {Q : Option Value → ab_H → Prop} {v0 : Nat} {v1 : Int32} {g : g_S} {r : g_S} (e : L_Layout_refresh_80 v0 v1 g = some r) (c : cL_Layout_refresh_80 L xs Q v0 (.inr r)) : wp (ab_ext L xs) J_Layout_refresh 80 [(0, .ref v0), (1, .int v1)] [] (hp g) Q :=
  it_wp (P := fun s : Int32 × g_S => wp (ab_ext L xs) J_Layout_refresh 80 [(0, .ref v0), (1, .int s.1)] [] (hp s.2) Q) (E := fun r => cL_Layout_refresh_80 L xs Q v0 (.inr r)) (fun s out e c => y_Layout_refresh_80 e (by cases out <;> exact c)) e c
theorem L_Layout_refresh_80_eq (v0 : Nat) (v1 : Int32) (g : g_S) : L_Layout_refresh_80 v0 v1 g = itc (b_Layout_refresh_80 v0 v1 g) (fun s => L_Layout_refresh_80 v0 s.1 s.2) := it_eq2 (fun s : Int32 × g_S => b_Layout_refresh_80 v0 s.1 s.2) (v1, g)
noncomputable def M_Layout_refresh (v0 : Nat) (g : g_S) : Option g_S :=
  (rI g 105 v0 4).bind fun z1 =>
  (rQ g 105 v0 0).bind fun z2 =>
  (rI g 110 z2 6).bind fun z3 =>
  if z1 = z3 then
    some g
  else
    (rQ g 105 v0 0).bind fun z4 =>
    (rI g 110 z4 6).bind fun z5 =>
    (wI g 105 v0 4 z5).bind fun g6 =>
    (wI g6 105 v0 6 0).bind fun g7 =>
    (rQ g7 105 v0 0).bind fun z8 =>
    (vc g7 110 z8 (M_Tree_list z8 g7)).bind fun g9 =>
    (L_Layout_refresh_40 v0 0 g9).bind <| fun g12 =>
    (rQ g12 105 v0 0).bind fun z13 =>
    (rI g12 110 z13 3).bind fun z14 =>
    (L_Layout_refresh_80 v0 (z14 - 1) g12).bind <| fun g17 =>
    (L_Layout_refresh_143 v0 1 g17).bind <| fun g20 =>
    some g20
set_option maxRecDepth 20000 in
theorem d_Layout_refresh {L : Nat} {xs : Nat → Int32} {Q : Option Value → ab_H → Prop} {v0 : Nat} {g : g_S} {out : g_S} (e : M_Layout_refresh v0 g = some out) (c : Q none (hp out)) : mw (ab_ext L xs) J_Layout_refresh [.ref v0] (hp g) Q := by
  unfold M_Layout_refresh at e
  refine wp_p (j := J_Layout_refresh) 1 (pc' := 1) (lv' := [(0, .ref v0)]) (st' := [.ref v0]) rfl ?_
  refine x_gI e rfl rfl fd_5_4 rfl (fun z1 e => ?_)
  refine wp_p (j := J_Layout_refresh) 1 (pc' := 5) (lv' := [(0, .ref v0)]) (st' := [.ref v0, .int z1]) rfl ?_
  refine x_gQ e rfl rfl fd_5_0 rfl (fun z2 e => ?_)
  refine x_gI e rfl rfl fd_10_6 rfl (fun z3 e => ?_)
  refine x_ne e rfl (fun e => ?_) (fun e => ?_)
  · have e := Option.some.inj e; subst e; exact wp_vret rfl rfl c
  · refine wp_p (j := J_Layout_refresh) 2 (pc' := 17) (lv' := [(0, .ref v0)]) (st' := [.ref v0, .ref v0]) rfl ?_
    refine x_gQ e rfl rfl fd_5_0 rfl (fun z4 e => ?_)
    refine x_gI e rfl rfl fd_10_6 rfl (fun z5 e => ?_)
    refine x_pI e rfl rfl fw_5_4 rfl (fun g6 e => ?_)
    refine wp_p (j := J_Layout_refresh) 2 (pc' := 28) (lv' := [(0, .ref v0)]) (st' := [.int 0, .ref v0]) rfl ?_
    refine x_pI e rfl rfl fw_5_6 rfl (fun g7 e => ?_)
    refine wp_p (j := J_Layout_refresh) 1 (pc' := 32) (lv' := [(0, .ref v0)]) (st' := [.ref v0]) rfl ?_
    refine x_gQ e rfl rfl fd_5_0 rfl (fun z8 e => ?_)
    refine x_cv0 (As := []) (rest := []) e rfl rfl rfl rfl rfl rfl (fun h => d_Tree_list h ⟨rfl, rfl⟩) (fun g9 e => ?_)
    refine wp_p (j := J_Layout_refresh) 2 (pc' := 40) (lv' := [(1, .int 0), (0, .ref v0)]) (st' := []) rfl ?_
    obtain ⟨g12, h11, e⟩ := bd e
    refine wp_lv (lv' := [(0, .ref v0), (1, .int 0)]) rfl ⟨rfl, rfl, trivial⟩ ?_
    refine l_Layout_refresh_40 h11 ?_
    show wp (ab_ext L xs) J_Layout_refresh 70 [(0, .ref v0)] [] (hp g12) Q
    refine wp_p (j := J_Layout_refresh) 1 (pc' := 71) (lv' := [(0, .ref v0)]) (st' := [.ref v0]) rfl ?_
    refine x_gQ e rfl rfl fd_5_0 rfl (fun z13 e => ?_)
    refine x_gI e rfl rfl fd_10_3 rfl (fun z14 e => ?_)
    refine wp_p (j := J_Layout_refresh) 3 (pc' := 80) (lv' := [(1, .int (z14 - 1)), (0, .ref v0)]) (st' := []) rfl ?_
    obtain ⟨g17, h16, e⟩ := bd e
    refine wp_lv (lv' := [(0, .ref v0), (1, .int (z14 - 1))]) rfl ⟨rfl, rfl, trivial⟩ ?_
    refine l_Layout_refresh_80 h16 ?_
    show wp (ab_ext L xs) J_Layout_refresh 141 [(0, .ref v0)] [] (hp g17) Q
    refine wp_p (j := J_Layout_refresh) 2 (pc' := 143) (lv' := [(1, .int 1), (0, .ref v0)]) (st' := []) rfl ?_
    obtain ⟨g20, h19, e⟩ := bd e
    refine wp_lv (lv' := [(0, .ref v0), (1, .int 1)]) rfl ⟨rfl, rfl, trivial⟩ ?_
    refine l_Layout_refresh_143 h19 ?_
    show wp (ab_ext L xs) J_Layout_refresh 178 [] [] (hp g20) Q
    have e := Option.some.inj e; subst e; exact wp_vret rfl rfl c
noncomputable def M_Box_isPainted (v0 : Nat) (g : g_S) : Option Int32 :=
  (rI g 103 v0 0).bind fun z1 =>
  if z1 = 1 then
    some 1
  else
    (rI g 103 v0 0).bind fun z2 =>
    if z2 = 2 then
      some 1
    else
      some 0
set_option maxRecDepth 20000 in
theorem d_Box_isPainted {L : Nat} {xs : Nat → Int32} {Q : Option Value → ab_H → Prop} {v0 : Nat} {g : g_S} {out : Int32} (e : M_Box_isPainted v0 g = some out) (c : Q (some (.int out)) (hp g)) : mw (ab_ext L xs) J_Box_isPainted [.ref v0] (hp g) Q := by
  unfold M_Box_isPainted at e
  refine wp_p (j := J_Box_isPainted) 1 (pc' := 1) (lv' := [(0, .ref v0)]) (st' := [.ref v0]) rfl ?_
  refine x_gI e rfl rfl fd_3_0 rfl (fun z1 e => ?_)
  refine wp_p (j := J_Box_isPainted) 1 (pc' := 5) (lv' := [(0, .ref v0)]) (st' := [.int 1, .int z1]) rfl ?_
  refine x_eq e rfl (fun e => ?_) (fun e => ?_)
  · refine wp_p (j := J_Box_isPainted) 2 (pc' := 21) (lv' := [(0, .ref v0)]) (st' := [.int 1]) rfl ?_
    have e := Option.some.inj e; subst e; exact wp_iret (ty := .boolean) rfl rfl (by decide) c
  · refine wp_p (j := J_Box_isPainted) 1 (pc' := 9) (lv' := [(0, .ref v0)]) (st' := [.ref v0]) rfl ?_
    refine x_gI e rfl rfl fd_3_0 rfl (fun z2 e => ?_)
    refine wp_p (j := J_Box_isPainted) 1 (pc' := 13) (lv' := [(0, .ref v0)]) (st' := [.int 2, .int z2]) rfl ?_
    refine x_ne e rfl (fun e => ?_) (fun e => ?_)
    · refine wp_p (j := J_Box_isPainted) 2 (pc' := 21) (lv' := [(0, .ref v0)]) (st' := [.int 1]) rfl ?_
      have e := Option.some.inj e; subst e; exact wp_iret (ty := .boolean) rfl rfl (by decide) c
    · refine wp_p (j := J_Box_isPainted) 1 (pc' := 21) (lv' := [(0, .ref v0)]) (st' := [.int 0]) rfl ?_
      have e := Option.some.inj e; subst e; exact wp_iret (ty := .boolean) rfl rfl (by decide) c
noncomputable def M_H_box (v0 : Nat) (v1 : Int32) (v2 : Int32) (g : g_S) : Option (Int32 × g_S) :=
  (vc g 111 v0 (M_H_isElement v0 v1 g)).bind fun z1 =>
  if z1 = 0 then
    some ((-1000), g)
  else
    (rQ g 111 v0 5).bind fun z2 =>
    (vc g 109 z2 (M_Sheet_refresh z2 g)).bind fun g3 =>
    (rQ g3 111 v0 6).bind fun z4 =>
    (vc g3 105 z4 (M_Layout_refresh z4 g3)).bind fun g5 =>
    (rQ g5 111 v0 6).bind fun z6 =>
    (rQ g5 105 z6 2).bind fun z7 =>
    (aQ g5 8 z7 v1).bind fun z8 =>
    (vc g5 103 z8 (M_Box_isPainted z8 g5)).bind fun z9 =>
    if z9 = 0 then
      some ((-1000), g5)
    else
      if v2 = 0 then
        (rI g5 103 z8 2).bind fun z11 =>
        some (z11, g5)
      else if v2 = 1 then
        (rI g5 103 z8 3).bind fun z13 =>
        some (z13, g5)
      else if v2 = 2 then
        (rI g5 103 z8 4).bind fun z15 =>
        some (z15, g5)
      else if v2 = 3 then
        (rI g5 103 z8 5).bind fun z17 =>
        some (z17, g5)
      else
        some ((-1000), g5)
set_option maxRecDepth 20000 in
theorem d_H_box {L : Nat} {xs : Nat → Int32} {Q : Option Value → ab_H → Prop} {v0 : Nat} {v1 : Int32} {v2 : Int32} {g : g_S} {out : Int32 × g_S} (e : M_H_box v0 v1 v2 g = some out) (c : Q (some (.int out.1)) (hp out.2)) : mw (ab_ext L xs) J_H_box [.ref v0, .int v1, .int v2] (hp g) Q := by
  unfold M_H_box at e
  refine wp_p (j := J_H_box) 2 (pc' := 2) (lv' := [(0, .ref v0), (1, .int v1), (2, .int v2)]) (st' := [.int v1, .ref v0]) rfl ?_
  refine x_cv1 (As := [.int v1]) (rest := []) Value.int e rfl rfl rfl rfl rfl rfl (fun h => d_H_isElement h ⟨rfl, rfl⟩) (fun z1 e => ?_)
  refine z_ne e rfl (fun e => ?_) (fun e => ?_)
  · refine wp_p (j := J_H_box) 1 (pc' := 11) (lv' := [(0, .ref v0), (1, .int v1), (2, .int v2)]) (st' := [.int (-1000)]) rfl ?_
    have e := Option.some.inj e; subst e; exact wp_iret (ty := .int) rfl rfl rfl c
  · refine wp_p (j := J_H_box) 1 (pc' := 13) (lv' := [(0, .ref v0), (1, .int v1), (2, .int v2)]) (st' := [.ref v0]) rfl ?_
    refine x_gQ e rfl rfl fd_11_5 rfl (fun z2 e => ?_)
    refine x_cv0 (As := []) (rest := []) e rfl rfl rfl rfl rfl rfl (fun h => d_Sheet_refresh h ⟨rfl, rfl⟩) (fun g3 e => ?_)
    refine wp_p (j := J_H_box) 1 (pc' := 20) (lv' := [(0, .ref v0), (1, .int v1), (2, .int v2)]) (st' := [.ref v0]) rfl ?_
    refine x_gQ e rfl rfl fd_11_6 rfl (fun z4 e => ?_)
    refine x_cv0 (As := []) (rest := []) e rfl rfl rfl rfl rfl rfl (fun h => d_Layout_refresh h ⟨rfl, rfl⟩) (fun g5 e => ?_)
    refine wp_p (j := J_H_box) 1 (pc' := 27) (lv' := [(0, .ref v0), (1, .int v1), (2, .int v2)]) (st' := [.ref v0]) rfl ?_
    refine x_gQ e rfl rfl fd_11_6 rfl (fun z6 e => ?_)
    refine x_gQ e rfl rfl fd_5_2 rfl (fun z7 e => ?_)
    refine wp_p (j := J_H_box) 1 (pc' := 34) (lv' := [(0, .ref v0), (1, .int v1), (2, .int v2)]) (st' := [.int v1, .ref z7]) rfl ?_
    refine x_aQ e rfl rfl rfl (fun z8 e => ?_)
    refine wp_p (j := J_H_box) 2 (pc' := 37) (lv' := [(3, .ref z8), (0, .ref v0), (1, .int v1), (2, .int v2)]) (st' := [.ref z8]) rfl ?_
    refine x_cv1 (As := []) (rest := []) Value.int e rfl rfl rfl rfl rfl rfl (fun h => d_Box_isPainted h ⟨rfl, rfl⟩) (fun z9 e => ?_)
    refine z_ne e rfl (fun e => ?_) (fun e => ?_)
    · refine wp_p (j := J_H_box) 1 (pc' := 46) (lv' := [(3, .ref z8), (0, .ref v0), (1, .int v1), (2, .int v2)]) (st' := [.int (-1000)]) rfl ?_
      have e := Option.some.inj e; subst e; exact wp_iret (ty := .int) rfl rfl rfl c
    · refine wp_p (j := J_H_box) 1 (pc' := 48) (lv' := [(3, .ref z8), (0, .ref v0), (1, .int v1), (2, .int v2)]) (st' := [.int v2]) rfl ?_
      refine x_if e (fun h10 e => ?_) (fun h10 e => ?_)
      · refine x_sw (cst := 0) (pc' := 80) (rest := []) h10 rfl rfl rfl ?_
        refine wp_p (j := J_H_box) 1 (pc' := 81) (lv' := [(3, .ref z8), (0, .ref v0), (1, .int v1), (2, .int v2)]) (st' := [.ref z8]) rfl ?_
        refine x_gI e rfl rfl fd_3_2 rfl (fun z11 e => ?_)
        have e := Option.some.inj e; subst e; exact wp_iret (ty := .int) rfl rfl rfl c
      refine x_if e (fun h12 e => ?_) (fun h12 e => ?_)
      · refine x_sw (cst := 1) (pc' := 85) (rest := []) h12 rfl rfl rfl ?_
        refine wp_p (j := J_H_box) 1 (pc' := 86) (lv' := [(3, .ref z8), (0, .ref v0), (1, .int v1), (2, .int v2)]) (st' := [.ref z8]) rfl ?_
        refine x_gI e rfl rfl fd_3_3 rfl (fun z13 e => ?_)
        have e := Option.some.inj e; subst e; exact wp_iret (ty := .int) rfl rfl rfl c
      refine x_if e (fun h14 e => ?_) (fun h14 e => ?_)
      · refine x_sw (cst := 2) (pc' := 90) (rest := []) h14 rfl rfl rfl ?_
        refine wp_p (j := J_H_box) 1 (pc' := 91) (lv' := [(3, .ref z8), (0, .ref v0), (1, .int v1), (2, .int v2)]) (st' := [.ref z8]) rfl ?_
        refine x_gI e rfl rfl fd_3_4 rfl (fun z15 e => ?_)
        have e := Option.some.inj e; subst e; exact wp_iret (ty := .int) rfl rfl rfl c
      refine x_if e (fun h16 e => ?_) (fun h16 e => ?_)
      · refine x_sw (cst := 3) (pc' := 95) (rest := []) h16 rfl rfl rfl ?_
        refine wp_p (j := J_H_box) 1 (pc' := 96) (lv' := [(3, .ref z8), (0, .ref v0), (1, .int v1), (2, .int v2)]) (st' := [.ref z8]) rfl ?_
        refine x_gI e rfl rfl fd_3_5 rfl (fun z17 e => ?_)
        have e := Option.some.inj e; subst e; exact wp_iret (ty := .int) rfl rfl rfl c
      refine wp_b (pc' := 100) (st' := []) rfl rfl ((ts_d (x := v2) (lo := 0) 4 rfl ⟨h10, h12, h14, h16, trivial⟩).trans rfl) ?_
      refine wp_p (j := J_H_box) 1 (pc' := 103) (lv' := [(3, .ref z8), (0, .ref v0), (1, .int v1), (2, .int v2)]) (st' := [.int (-1000)]) rfl ?_
      have e := Option.some.inj e; subst e; exact wp_iret (ty := .int) rfl rfl rfl c
noncomputable def M_H_word (v0 : Nat) (v1 : Int32) (v2 : Int32) (g : g_S) : Option (Int32 × g_S) :=
  (rQ g 111 v0 5).bind fun z1 =>
  (vc g 109 z1 (M_Sheet_refresh z1 g)).bind fun g2 =>
  (rQ g2 111 v0 6).bind fun z3 =>
  (vc g2 105 z3 (M_Layout_refresh z3 g2)).bind fun g4 =>
  if v1 < 0 then
    some ((-1000), g4)
  else
    (rQ g4 111 v0 6).bind fun z5 =>
    (rI g4 105 z5 6).bind fun z6 =>
    if v1 < z6 then
      if v2 < 0 then
        some ((-1000), g4)
      else
        if 6 < v2 then
          some ((-1000), g4)
        else
          if v2 = 6 then
            (rQ g4 111 v0 6).bind fun z7 =>
            (vc g4 105 z7 (M_Layout_wordHeight z7 v1 g4)).bind fun z8 =>
            some (z8, g4)
          else
            (rQ g4 111 v0 6).bind fun z9 =>
            (rQ g4 105 z9 5).bind fun z10 =>
            (aI g4 0 z10 ((v1 * 6) + v2)).bind fun z11 =>
            some (z11, g4)
    else
      some ((-1000), g4)
set_option maxRecDepth 20000 in
theorem d_H_word {L : Nat} {xs : Nat → Int32} {Q : Option Value → ab_H → Prop} {v0 : Nat} {v1 : Int32} {v2 : Int32} {g : g_S} {out : Int32 × g_S} (e : M_H_word v0 v1 v2 g = some out) (c : Q (some (.int out.1)) (hp out.2)) : mw (ab_ext L xs) J_H_word [.ref v0, .int v1, .int v2] (hp g) Q := by
  unfold M_H_word at e
  refine wp_p (j := J_H_word) 1 (pc' := 1) (lv' := [(0, .ref v0), (1, .int v1), (2, .int v2)]) (st' := [.ref v0]) rfl ?_
  refine x_gQ e rfl rfl fd_11_5 rfl (fun z1 e => ?_)
  refine x_cv0 (As := []) (rest := []) e rfl rfl rfl rfl rfl rfl (fun h => d_Sheet_refresh h ⟨rfl, rfl⟩) (fun g2 e => ?_)
  refine wp_p (j := J_H_word) 1 (pc' := 8) (lv' := [(0, .ref v0), (1, .int v1), (2, .int v2)]) (st' := [.ref v0]) rfl ?_
  refine x_gQ e rfl rfl fd_11_6 rfl (fun z3 e => ?_)
  refine x_cv0 (As := []) (rest := []) e rfl rfl rfl rfl rfl rfl (fun h => d_Layout_refresh h ⟨rfl, rfl⟩) (fun g4 e => ?_)
  refine wp_p (j := J_H_word) 1 (pc' := 15) (lv' := [(0, .ref v0), (1, .int v1), (2, .int v2)]) (st' := [.int v1]) rfl ?_
  refine z_lt e rfl (fun e => ?_) (fun e => ?_)
  · refine wp_p (j := J_H_word) 1 (pc' := 42) (lv' := [(0, .ref v0), (1, .int v1), (2, .int v2)]) (st' := [.int (-1000)]) rfl ?_
    have e := Option.some.inj e; subst e; exact wp_iret (ty := .int) rfl rfl rfl c
  · refine wp_p (j := J_H_word) 2 (pc' := 20) (lv' := [(0, .ref v0), (1, .int v1), (2, .int v2)]) (st' := [.ref v0, .int v1]) rfl ?_
    refine x_gQ e rfl rfl fd_11_6 rfl (fun z5 e => ?_)
    refine x_gI e rfl rfl fd_5_6 rfl (fun z6 e => ?_)
    refine x_ge e rfl (fun e => ?_) (fun e => ?_)
    · refine wp_p (j := J_H_word) 1 (pc' := 30) (lv' := [(0, .ref v0), (1, .int v1), (2, .int v2)]) (st' := [.int v2]) rfl ?_
      refine z_lt e rfl (fun e => ?_) (fun e => ?_)
      · refine wp_p (j := J_H_word) 1 (pc' := 42) (lv' := [(0, .ref v0), (1, .int v1), (2, .int v2)]) (st' := [.int (-1000)]) rfl ?_
        have e := Option.some.inj e; subst e; exact wp_iret (ty := .int) rfl rfl rfl c
      · refine wp_p (j := J_H_word) 2 (pc' := 36) (lv' := [(0, .ref v0), (1, .int v1), (2, .int v2)]) (st' := [.int 6, .int v2]) rfl ?_
        refine x_le e rfl (fun e => ?_) (fun e => ?_)
        · refine wp_p (j := J_H_word) 1 (pc' := 42) (lv' := [(0, .ref v0), (1, .int v1), (2, .int v2)]) (st' := [.int (-1000)]) rfl ?_
          have e := Option.some.inj e; subst e; exact wp_iret (ty := .int) rfl rfl rfl c
        · refine wp_p (j := J_H_word) 2 (pc' := 46) (lv' := [(0, .ref v0), (1, .int v1), (2, .int v2)]) (st' := [.int 6, .int v2]) rfl ?_
          refine x_ne e rfl (fun e => ?_) (fun e => ?_)
          · refine wp_p (j := J_H_word) 1 (pc' := 50) (lv' := [(0, .ref v0), (1, .int v1), (2, .int v2)]) (st' := [.ref v0]) rfl ?_
            refine x_gQ e rfl rfl fd_11_6 rfl (fun z7 e => ?_)
            refine wp_p (j := J_H_word) 1 (pc' := 54) (lv' := [(0, .ref v0), (1, .int v1), (2, .int v2)]) (st' := [.int v1, .ref z7]) rfl ?_
            refine x_cv1 (As := [.int v1]) (rest := []) Value.int e rfl rfl rfl rfl rfl rfl (fun h => d_Layout_wordHeight h ⟨rfl, rfl⟩) (fun z8 e => ?_)
            have e := Option.some.inj e; subst e; exact wp_iret (ty := .int) rfl rfl rfl c
          · refine wp_p (j := J_H_word) 1 (pc' := 59) (lv' := [(0, .ref v0), (1, .int v1), (2, .int v2)]) (st' := [.ref v0]) rfl ?_
            refine x_gQ e rfl rfl fd_11_6 rfl (fun z9 e => ?_)
            refine x_gQ e rfl rfl fd_5_5 rfl (fun z10 e => ?_)
            refine wp_p (j := J_H_word) 5 (pc' := 71) (lv' := [(0, .ref v0), (1, .int v1), (2, .int v2)]) (st' := [.int ((v1 * 6) + v2), .ref z10]) rfl ?_
            refine x_aI e rfl rfl (fun z11 e => ?_)
            have e := Option.some.inj e; subst e; exact wp_iret (ty := .int) rfl rfl rfl c
    · refine wp_p (j := J_H_word) 1 (pc' := 42) (lv' := [(0, .ref v0), (1, .int v1), (2, .int v2)]) (st' := [.int (-1000)]) rfl ?_
      have e := Option.some.inj e; subst e; exact wp_iret (ty := .int) rfl rfl rfl c
noncomputable def M_Layout_pictureHeight (v0 : Nat) (g : g_S) : Option Int32 :=
  (rQ g 105 v0 2).bind fun z1 =>
  (aQ g 8 z1 0).bind fun z2 =>
  (rI g 103 z2 5).bind fun z3 =>
  some (mn z3 400)
set_option maxRecDepth 20000 in
theorem d_Layout_pictureHeight {L : Nat} {xs : Nat → Int32} {Q : Option Value → ab_H → Prop} {v0 : Nat} {g : g_S} {out : Int32} (e : M_Layout_pictureHeight v0 g = some out) (c : Q (some (.int out)) (hp g)) : mw (ab_ext L xs) J_Layout_pictureHeight [.ref v0] (hp g) Q := by
  unfold M_Layout_pictureHeight at e
  refine wp_p (j := J_Layout_pictureHeight) 1 (pc' := 1) (lv' := [(0, .ref v0)]) (st' := [.ref v0]) rfl ?_
  refine x_gQ e rfl rfl fd_5_2 rfl (fun z1 e => ?_)
  refine wp_p (j := J_Layout_pictureHeight) 1 (pc' := 5) (lv' := [(0, .ref v0)]) (st' := [.int 0, .ref z1]) rfl ?_
  refine x_aQ e rfl rfl rfl (fun z2 e => ?_)
  refine x_gI e rfl rfl fd_3_5 rfl (fun z3 e => ?_)
  refine wp_p (j := J_Layout_pictureHeight) 1 (pc' := 12) (lv' := [(0, .ref v0)]) (st' := [.int 400, .int z3]) rfl ?_
  refine x_mn rfl rfl ?_
  have e := Option.some.inj e; subst e; exact wp_iret (ty := .int) rfl rfl rfl c
noncomputable def M_Layout_isInPicture (v0 : Nat) (v1 : Int32) (v2 : Int32) (g : g_S) : Option Int32 :=
  if v1 < 0 then
    some 0
  else
    (rI g 105 v0 3).bind fun z1 =>
    if v1 < z1 then
      if v2 < 0 then
        some 0
      else
        (vc g 105 v0 (M_Layout_pictureHeight v0 g)).bind fun z2 =>
        if v2 < z2 then
          some 1
        else
          some 0
    else
      some 0
set_option maxRecDepth 20000 in
theorem d_Layout_isInPicture {L : Nat} {xs : Nat → Int32} {Q : Option Value → ab_H → Prop} {v0 : Nat} {v1 : Int32} {v2 : Int32} {g : g_S} {out : Int32} (e : M_Layout_isInPicture v0 v1 v2 g = some out) (c : Q (some (.int out)) (hp g)) : mw (ab_ext L xs) J_Layout_isInPicture [.ref v0, .int v1, .int v2] (hp g) Q := by
  unfold M_Layout_isInPicture at e
  refine wp_p (j := J_Layout_isInPicture) 1 (pc' := 1) (lv' := [(0, .ref v0), (1, .int v1), (2, .int v2)]) (st' := [.int v1]) rfl ?_
  refine z_lt e rfl (fun e => ?_) (fun e => ?_)
  · refine wp_p (j := J_Layout_isInPicture) 1 (pc' := 29) (lv' := [(0, .ref v0), (1, .int v1), (2, .int v2)]) (st' := [.int 0]) rfl ?_
    have e := Option.some.inj e; subst e; exact wp_iret (ty := .boolean) rfl rfl (by decide) c
  · refine wp_p (j := J_Layout_isInPicture) 2 (pc' := 6) (lv' := [(0, .ref v0), (1, .int v1), (2, .int v2)]) (st' := [.ref v0, .int v1]) rfl ?_
    refine x_gI e rfl rfl fd_5_3 rfl (fun z1 e => ?_)
    refine x_ge e rfl (fun e => ?_) (fun e => ?_)
    · refine wp_p (j := J_Layout_isInPicture) 1 (pc' := 13) (lv' := [(0, .ref v0), (1, .int v1), (2, .int v2)]) (st' := [.int v2]) rfl ?_
      refine z_lt e rfl (fun e => ?_) (fun e => ?_)
      · refine wp_p (j := J_Layout_isInPicture) 1 (pc' := 29) (lv' := [(0, .ref v0), (1, .int v1), (2, .int v2)]) (st' := [.int 0]) rfl ?_
        have e := Option.some.inj e; subst e; exact wp_iret (ty := .boolean) rfl rfl (by decide) c
      · refine wp_p (j := J_Layout_isInPicture) 2 (pc' := 18) (lv' := [(0, .ref v0), (1, .int v1), (2, .int v2)]) (st' := [.ref v0, .int v2]) rfl ?_
        refine x_cv1 (As := []) (rest := [.int v2]) Value.int e rfl rfl rfl rfl rfl rfl (fun h => d_Layout_pictureHeight h ⟨rfl, rfl⟩) (fun z2 e => ?_)
        refine x_ge e rfl (fun e => ?_) (fun e => ?_)
        · refine wp_p (j := J_Layout_isInPicture) 2 (pc' := 29) (lv' := [(0, .ref v0), (1, .int v1), (2, .int v2)]) (st' := [.int 1]) rfl ?_
          have e := Option.some.inj e; subst e; exact wp_iret (ty := .boolean) rfl rfl (by decide) c
        · refine wp_p (j := J_Layout_isInPicture) 1 (pc' := 29) (lv' := [(0, .ref v0), (1, .int v1), (2, .int v2)]) (st' := [.int 0]) rfl ?_
          have e := Option.some.inj e; subst e; exact wp_iret (ty := .boolean) rfl rfl (by decide) c
    · refine wp_p (j := J_Layout_isInPicture) 1 (pc' := 29) (lv' := [(0, .ref v0), (1, .int v1), (2, .int v2)]) (st' := [.int 0]) rfl ?_
      have e := Option.some.inj e; subst e; exact wp_iret (ty := .boolean) rfl rfl (by decide) c
noncomputable def M_Box_holds (v0 : Nat) (v1 : Int32) (v2 : Int32) (v3 : Int32) (g : g_S) : Option Int32 :=
  (rI g 103 v0 2).bind fun z1 =>
  if v1 < (z1 + v3) then
    some 0
  else
    (rI g 103 v0 2).bind fun z2 =>
    (rI g 103 v0 4).bind fun z3 =>
    if v1 < ((z2 + z3) - v3) then
      (rI g 103 v0 3).bind fun z4 =>
      if v2 < (z4 + v3) then
        some 0
      else
        (rI g 103 v0 3).bind fun z5 =>
        (rI g 103 v0 5).bind fun z6 =>
        if v2 < ((z5 + z6) - v3) then
          some 1
        else
          some 0
    else
      some 0
set_option maxRecDepth 20000 in
theorem d_Box_holds {L : Nat} {xs : Nat → Int32} {Q : Option Value → ab_H → Prop} {v0 : Nat} {v1 : Int32} {v2 : Int32} {v3 : Int32} {g : g_S} {out : Int32} (e : M_Box_holds v0 v1 v2 v3 g = some out) (c : Q (some (.int out)) (hp g)) : mw (ab_ext L xs) J_Box_holds [.ref v0, .int v1, .int v2, .int v3] (hp g) Q := by
  unfold M_Box_holds at e
  refine wp_p (j := J_Box_holds) 2 (pc' := 2) (lv' := [(0, .ref v0), (1, .int v1), (2, .int v2), (3, .int v3)]) (st' := [.ref v0, .int v1]) rfl ?_
  refine x_gI e rfl rfl fd_3_2 rfl (fun z1 e => ?_)
  refine wp_p (j := J_Box_holds) 2 (pc' := 7) (lv' := [(0, .ref v0), (1, .int v1), (2, .int v2), (3, .int v3)]) (st' := [.int (z1 + v3), .int v1]) rfl ?_
  refine x_lt e rfl (fun e => ?_) (fun e => ?_)
  · refine wp_p (j := J_Box_holds) 1 (pc' := 55) (lv' := [(0, .ref v0), (1, .int v1), (2, .int v2), (3, .int v3)]) (st' := [.int 0]) rfl ?_
    have e := Option.some.inj e; subst e; exact wp_iret (ty := .boolean) rfl rfl (by decide) c
  · refine wp_p (j := J_Box_holds) 2 (pc' := 12) (lv' := [(0, .ref v0), (1, .int v1), (2, .int v2), (3, .int v3)]) (st' := [.ref v0, .int v1]) rfl ?_
    refine x_gI e rfl rfl fd_3_2 rfl (fun z2 e => ?_)
    refine wp_p (j := J_Box_holds) 1 (pc' := 16) (lv' := [(0, .ref v0), (1, .int v1), (2, .int v2), (3, .int v3)]) (st' := [.ref v0, .int z2, .int v1]) rfl ?_
    refine x_gI e rfl rfl fd_3_4 rfl (fun z3 e => ?_)
    refine wp_p (j := J_Box_holds) 3 (pc' := 22) (lv' := [(0, .ref v0), (1, .int v1), (2, .int v2), (3, .int v3)]) (st' := [.int ((z2 + z3) - v3), .int v1]) rfl ?_
    refine x_ge e rfl (fun e => ?_) (fun e => ?_)
    · refine wp_p (j := J_Box_holds) 2 (pc' := 27) (lv' := [(0, .ref v0), (1, .int v1), (2, .int v2), (3, .int v3)]) (st' := [.ref v0, .int v2]) rfl ?_
      refine x_gI e rfl rfl fd_3_3 rfl (fun z4 e => ?_)
      refine wp_p (j := J_Box_holds) 2 (pc' := 32) (lv' := [(0, .ref v0), (1, .int v1), (2, .int v2), (3, .int v3)]) (st' := [.int (z4 + v3), .int v2]) rfl ?_
      refine x_lt e rfl (fun e => ?_) (fun e => ?_)
      · refine wp_p (j := J_Box_holds) 1 (pc' := 55) (lv' := [(0, .ref v0), (1, .int v1), (2, .int v2), (3, .int v3)]) (st' := [.int 0]) rfl ?_
        have e := Option.some.inj e; subst e; exact wp_iret (ty := .boolean) rfl rfl (by decide) c
      · refine wp_p (j := J_Box_holds) 2 (pc' := 37) (lv' := [(0, .ref v0), (1, .int v1), (2, .int v2), (3, .int v3)]) (st' := [.ref v0, .int v2]) rfl ?_
        refine x_gI e rfl rfl fd_3_3 rfl (fun z5 e => ?_)
        refine wp_p (j := J_Box_holds) 1 (pc' := 41) (lv' := [(0, .ref v0), (1, .int v1), (2, .int v2), (3, .int v3)]) (st' := [.ref v0, .int z5, .int v2]) rfl ?_
        refine x_gI e rfl rfl fd_3_5 rfl (fun z6 e => ?_)
        refine wp_p (j := J_Box_holds) 3 (pc' := 47) (lv' := [(0, .ref v0), (1, .int v1), (2, .int v2), (3, .int v3)]) (st' := [.int ((z5 + z6) - v3), .int v2]) rfl ?_
        refine x_ge e rfl (fun e => ?_) (fun e => ?_)
        · refine wp_p (j := J_Box_holds) 2 (pc' := 55) (lv' := [(0, .ref v0), (1, .int v1), (2, .int v2), (3, .int v3)]) (st' := [.int 1]) rfl ?_
          have e := Option.some.inj e; subst e; exact wp_iret (ty := .boolean) rfl rfl (by decide) c
        · refine wp_p (j := J_Box_holds) 1 (pc' := 55) (lv' := [(0, .ref v0), (1, .int v1), (2, .int v2), (3, .int v3)]) (st' := [.int 0]) rfl ?_
          have e := Option.some.inj e; subst e; exact wp_iret (ty := .boolean) rfl rfl (by decide) c
    · refine wp_p (j := J_Box_holds) 1 (pc' := 55) (lv' := [(0, .ref v0), (1, .int v1), (2, .int v2), (3, .int v3)]) (st' := [.int 0]) rfl ?_
      have e := Option.some.inj e; subst e; exact wp_iret (ty := .boolean) rfl rfl (by decide) c
noncomputable def M_Box_colorAt (v0 : Nat) (v1 : Int32) (v2 : Int32) (g : g_S) : Option Int32 :=
  (vc g 103 v0 (M_Box_holds v0 v1 v2 0 g)).bind fun z1 =>
  if z1 = 0 then
    some (-1)
  else
    (rI g 103 v0 7).bind fun z2 =>
    (vc g 103 v0 (M_Box_holds v0 v1 v2 z2 g)).bind fun z3 =>
    if z3 = 0 then
      (rI g 103 v0 9).bind fun z4 =>
      some z4
    else
      (rI g 103 v0 10).bind fun z5 =>
      some z5
set_option maxRecDepth 20000 in
theorem d_Box_colorAt {L : Nat} {xs : Nat → Int32} {Q : Option Value → ab_H → Prop} {v0 : Nat} {v1 : Int32} {v2 : Int32} {g : g_S} {out : Int32} (e : M_Box_colorAt v0 v1 v2 g = some out) (c : Q (some (.int out)) (hp g)) : mw (ab_ext L xs) J_Box_colorAt [.ref v0, .int v1, .int v2] (hp g) Q := by
  unfold M_Box_colorAt at e
  refine wp_p (j := J_Box_colorAt) 4 (pc' := 4) (lv' := [(0, .ref v0), (1, .int v1), (2, .int v2)]) (st' := [.int 0, .int v2, .int v1, .ref v0]) rfl ?_
  refine x_cv1 (As := [.int v1, .int v2, .int 0]) (rest := []) Value.int e rfl rfl rfl rfl rfl rfl (fun h => d_Box_holds h ⟨rfl, rfl⟩) (fun z1 e => ?_)
  refine z_ne e rfl (fun e => ?_) (fun e => ?_)
  · refine wp_p (j := J_Box_colorAt) 1 (pc' := 11) (lv' := [(0, .ref v0), (1, .int v1), (2, .int v2)]) (st' := [.int (-1)]) rfl ?_
    have e := Option.some.inj e; subst e; exact wp_iret (ty := .int) rfl rfl rfl c
  · refine wp_p (j := J_Box_colorAt) 4 (pc' := 16) (lv' := [(0, .ref v0), (1, .int v1), (2, .int v2)]) (st' := [.ref v0, .int v2, .int v1, .ref v0]) rfl ?_
    refine x_gI e rfl rfl fd_3_7 rfl (fun z2 e => ?_)
    refine x_cv1 (As := [.int v1, .int v2, .int z2]) (rest := []) Value.int e rfl rfl rfl rfl rfl rfl (fun h => d_Box_holds h ⟨rfl, rfl⟩) (fun z3 e => ?_)
    refine z_eq e rfl (fun e => ?_) (fun e => ?_)
    · refine wp_p (j := J_Box_colorAt) 1 (pc' := 33) (lv' := [(0, .ref v0), (1, .int v1), (2, .int v2)]) (st' := [.ref v0]) rfl ?_
      refine x_gI e rfl rfl fd_3_9 rfl (fun z4 e => ?_)
      have e := Option.some.inj e; subst e; exact wp_iret (ty := .int) rfl rfl rfl c
    · refine wp_p (j := J_Box_colorAt) 1 (pc' := 26) (lv' := [(0, .ref v0), (1, .int v1), (2, .int v2)]) (st' := [.ref v0]) rfl ?_
      refine x_gI e rfl rfl fd_3_10 rfl (fun z5 e => ?_)
      refine wp_p (j := J_Box_colorAt) 1 (pc' := 36) (lv' := [(0, .ref v0), (1, .int v1), (2, .int v2)]) (st' := [.int z5]) rfl ?_
      have e := Option.some.inj e; subst e; exact wp_iret (ty := .int) rfl rfl rfl c
noncomputable def M_Layout_isGlyphOn (v0 : Int32) (v1 : Int32) (v2 : Int32) (v3 : Int32) (g : g_S) : Option Int32 :=
  if v1 < 1 then
    some 0
  else
    if v2 < 0 then
      some 0
    else
      if v3 < v1 then
        some 0
      else
        (dv v2 v1).bind fun z1 =>
        (dv v3 v1).bind fun z2 =>
        (M_Bytes_glyphWidth v0 g).bind fun z3 =>
        if (z3 - 2) < z1 then
          some 0
        else
          if 4 < (z2 - 1) then
            some 0
          else
            (rm ((5 * z1) + (z2 - 1)) 13).bind fun z4 =>
            if ((((v0 * 40503) >>> (3 &&& 31)) >>> (z4 &&& 31)) &&& 1) = 1 then
              some 1
            else
              some 0
set_option maxRecDepth 20000 in
theorem d_Layout_isGlyphOn {L : Nat} {xs : Nat → Int32} {Q : Option Value → ab_H → Prop} {v0 : Int32} {v1 : Int32} {v2 : Int32} {v3 : Int32} {g : g_S} {out : Int32} (e : M_Layout_isGlyphOn v0 v1 v2 v3 g = some out) (c : Q (some (.int out)) (hp g)) : mw (ab_ext L xs) J_Layout_isGlyphOn [.int v0, .int v1, .int v2, .int v3] (hp g) Q := by
  unfold M_Layout_isGlyphOn at e
  refine wp_p (j := J_Layout_isGlyphOn) 2 (pc' := 2) (lv' := [(0, .int v0), (1, .int v1), (2, .int v2), (3, .int v3)]) (st' := [.int 1, .int v1]) rfl ?_
  refine x_lt e rfl (fun e => ?_) (fun e => ?_)
  · refine wp_p (j := J_Layout_isGlyphOn) 1 (pc' := 15) (lv' := [(0, .int v0), (1, .int v1), (2, .int v2), (3, .int v3)]) (st' := [.int 0]) rfl ?_
    have e := Option.some.inj e; subst e; exact wp_iret (ty := .boolean) rfl rfl (by decide) c
  · refine wp_p (j := J_Layout_isGlyphOn) 1 (pc' := 6) (lv' := [(0, .int v0), (1, .int v1), (2, .int v2), (3, .int v3)]) (st' := [.int v2]) rfl ?_
    refine z_lt e rfl (fun e => ?_) (fun e => ?_)
    · refine wp_p (j := J_Layout_isGlyphOn) 1 (pc' := 15) (lv' := [(0, .int v0), (1, .int v1), (2, .int v2), (3, .int v3)]) (st' := [.int 0]) rfl ?_
      have e := Option.some.inj e; subst e; exact wp_iret (ty := .boolean) rfl rfl (by decide) c
    · refine wp_p (j := J_Layout_isGlyphOn) 2 (pc' := 11) (lv' := [(0, .int v0), (1, .int v1), (2, .int v2), (3, .int v3)]) (st' := [.int v1, .int v3]) rfl ?_
      refine x_ge e rfl (fun e => ?_) (fun e => ?_)
      · refine wp_p (j := J_Layout_isGlyphOn) 1 (pc' := 15) (lv' := [(0, .int v0), (1, .int v1), (2, .int v2), (3, .int v3)]) (st' := [.int 0]) rfl ?_
        have e := Option.some.inj e; subst e; exact wp_iret (ty := .boolean) rfl rfl (by decide) c
      · refine wp_p (j := J_Layout_isGlyphOn) 2 (pc' := 18) (lv' := [(0, .int v0), (1, .int v1), (2, .int v2), (3, .int v3)]) (st' := [.int v1, .int v2]) rfl ?_
        refine x_dv e rfl (fun z1 e => ?_)
        refine wp_p (j := J_Layout_isGlyphOn) 3 (pc' := 23) (lv' := [(4, .int z1), (0, .int v0), (1, .int v1), (2, .int v2), (3, .int v3)]) (st' := [.int v1, .int v3]) rfl ?_
        refine x_dv e rfl (fun z2 e => ?_)
        refine wp_p (j := J_Layout_isGlyphOn) 5 (pc' := 31) (lv' := [(5, .int (z2 - 1)), (4, .int z1), (0, .int v0), (1, .int v1), (2, .int v2), (3, .int v3)]) (st' := [.int v0, .int z1]) rfl ?_
        refine x_cs1 (As := [.int v0]) (rest := [.int z1]) Value.int e rfl rfl rfl rfl rfl (fun h => d_Bytes_glyphWidth h ⟨rfl, rfl⟩) (fun z3 e => ?_)
        refine wp_p (j := J_Layout_isGlyphOn) 2 (pc' := 36) (lv' := [(5, .int (z2 - 1)), (4, .int z1), (0, .int v0), (1, .int v1), (2, .int v2), (3, .int v3)]) (st' := [.int (z3 - 2), .int z1]) rfl ?_
        refine x_gt e rfl (fun e => ?_) (fun e => ?_)
        · refine wp_p (j := J_Layout_isGlyphOn) 1 (pc' := 46) (lv' := [(5, .int (z2 - 1)), (4, .int z1), (0, .int v0), (1, .int v1), (2, .int v2), (3, .int v3)]) (st' := [.int 0]) rfl ?_
          have e := Option.some.inj e; subst e; exact wp_iret (ty := .boolean) rfl rfl (by decide) c
        · refine wp_p (j := J_Layout_isGlyphOn) 2 (pc' := 42) (lv' := [(5, .int (z2 - 1)), (4, .int z1), (0, .int v0), (1, .int v1), (2, .int v2), (3, .int v3)]) (st' := [.int 4, .int (z2 - 1)]) rfl ?_
          refine x_le e rfl (fun e => ?_) (fun e => ?_)
          · refine wp_p (j := J_Layout_isGlyphOn) 1 (pc' := 46) (lv' := [(5, .int (z2 - 1)), (4, .int z1), (0, .int v0), (1, .int v1), (2, .int v2), (3, .int v3)]) (st' := [.int 0]) rfl ?_
            have e := Option.some.inj e; subst e; exact wp_iret (ty := .boolean) rfl rfl (by decide) c
          · refine wp_p (j := J_Layout_isGlyphOn) 1 (pc' := 48) (lv' := [(5, .int (z2 - 1)), (4, .int z1), (0, .int v0), (1, .int v1), (2, .int v2), (3, .int v3)]) (st' := [.int v0]) rfl ?_
            refine x_ldw (x := 40503) rfl rfl rfl ?_
            refine wp_p (j := J_Layout_isGlyphOn) 9 (pc' := 63) (lv' := [(5, .int (z2 - 1)), (4, .int z1), (0, .int v0), (1, .int v1), (2, .int v2), (3, .int v3)]) (st' := [.int 13, .int ((5 * z1) + (z2 - 1)), .int ((v0 * 40503) >>> (3 &&& 31))]) rfl ?_
            refine x_rm e rfl (fun z4 e => ?_)
            refine wp_p (j := J_Layout_isGlyphOn) 4 (pc' := 68) (lv' := [(5, .int (z2 - 1)), (4, .int z1), (0, .int v0), (1, .int v1), (2, .int v2), (3, .int v3)]) (st' := [.int 1, .int ((((v0 * 40503) >>> (3 &&& 31)) >>> (z4 &&& 31)) &&& 1)]) rfl ?_
            refine x_ne e rfl (fun e => ?_) (fun e => ?_)
            · refine wp_p (j := J_Layout_isGlyphOn) 2 (pc' := 76) (lv' := [(5, .int (z2 - 1)), (4, .int z1), (0, .int v0), (1, .int v1), (2, .int v2), (3, .int v3)]) (st' := [.int 1]) rfl ?_
              have e := Option.some.inj e; subst e; exact wp_iret (ty := .boolean) rfl rfl (by decide) c
            · refine wp_p (j := J_Layout_isGlyphOn) 1 (pc' := 76) (lv' := [(5, .int (z2 - 1)), (4, .int z1), (0, .int v0), (1, .int v1), (2, .int v2), (3, .int v3)]) (st' := [.int 0]) rfl ?_
              have e := Option.some.inj e; subst e; exact wp_iret (ty := .boolean) rfl rfl (by decide) c
def cL_Layout_isLetterOn_6 (L : Nat) (xs : Nat → Int32) (Q : Option Value → ab_H → Prop) (v0 : Nat) (v2 : Int32) (v3 : Int32) (v4 : Int32) (v5 : Int32) (g : g_S) (out : (Int32 × Int32) ⊕ ((Unit) ⊕ (Int32 × Int32 × Int32) ⊕ (Unit))) : Prop := match out with
  | .inl s => wp (ab_ext L xs) J_Layout_isLetterOn 6 [(0, .ref v0), (2, .int v2), (3, .int v3), (4, .int v4), (5, .int v5), (6, .int s.1), (7, .int s.2)] [] (hp g) Q
  | .inr (.inl s) => wp (ab_ext L xs) J_Layout_isLetterOn 65 [] [] (hp g) Q
  | .inr (.inr (.inl s)) => wp (ab_ext L xs) J_Layout_isLetterOn 77 [(3, .int v3), (4, .int v4), (5, .int v5), (6, .int s.1), (8, .int s.2.1), (9, .int s.2.2)] [] (hp g) Q
  | .inr (.inr (.inr s)) => wp (ab_ext L xs) J_Layout_isLetterOn 117 [] [] (hp g) Q
noncomputable def k_Layout_isLetterOn_53 (v0 : Nat) (v2 : Int32) (v3 : Int32) (v4 : Int32) (v5 : Int32) (v6 : Int32) (v7 : Int32) (v8 : Int32) (v9 : Int32) (w0 : Int32) (w1 : Int32) (g : g_S) : Option ((Int32 × Int32) ⊕ ((Unit) ⊕ (Int32 × Int32 × Int32) ⊕ (Unit))) :=
  if v2 < (v6 + (w1 * w0)) then
    some (.inr (.inl ()))
  else
    if v4 < (v6 + (w1 * w0)) then
      some (.inr (.inr (.inl (v6, v8, v9))))
    else
      some (.inl (v6 + (w1 * w0), v7 + 1))
set_option maxRecDepth 20000 in
theorem x_Layout_isLetterOn_53 {L : Nat} {xs : Nat → Int32} {Q : Option Value → ab_H → Prop} {v0 : Nat} {v2 : Int32} {v3 : Int32} {v4 : Int32} {v5 : Int32} {v6 : Int32} {v7 : Int32} {v8 : Int32} {v9 : Int32} {w0 : Int32} {w1 : Int32} {g : g_S} {out : (Int32 × Int32) ⊕ ((Unit) ⊕ (Int32 × Int32 × Int32) ⊕ (Unit))} (e : k_Layout_isLetterOn_53 v0 v2 v3 v4 v5 v6 v7 v8 v9 w0 w1 g = some out) (c : cL_Layout_isLetterOn_6 L xs Q v0 v2 v3 v4 v5 g out) : wp (ab_ext L xs) J_Layout_isLetterOn 53 [(0, .ref v0), (2, .int v2), (3, .int v3), (4, .int v4), (5, .int v5), (6, .int v6), (7, .int v7), (8, .int v8), (9, .int v9)] [.int w0, .int w1] (hp g) Q := by
  unfold k_Layout_isLetterOn_53 at e
  refine wp_p (j := J_Layout_isLetterOn) 6 (pc' := 62) (lv' := [(10, .int (w1 * w0)), (0, .ref v0), (2, .int v2), (3, .int v3), (4, .int v4), (5, .int v5), (6, .int v6), (7, .int v7), (8, .int v8), (9, .int v9)]) (st' := [.int v2, .int (v6 + (w1 * w0))]) rfl ?_
  refine x_le e rfl (fun e => ?_) (fun e => ?_)
  · have e := Option.some.inj e; subst e; exact wp_lv (lv' := []) rfl trivial c
  · refine wp_p (j := J_Layout_isLetterOn) 4 (pc' := 74) (lv' := [(10, .int (w1 * w0)), (0, .ref v0), (2, .int v2), (3, .int v3), (4, .int v4), (5, .int v5), (6, .int v6), (7, .int v7), (8, .int v8), (9, .int v9)]) (st' := [.int (v6 + (w1 * w0)), .int v4]) rfl ?_
    refine x_ge e rfl (fun e => ?_) (fun e => ?_)
    · have e := Option.some.inj e; subst e; exact wp_lv (lv' := [(3, .int v3), (4, .int v4), (5, .int v5), (6, .int v6), (8, .int v8), (9, .int v9)]) rfl ⟨rfl, rfl, rfl, rfl, rfl, rfl, trivial⟩ c
    · refine wp_p (j := J_Layout_isLetterOn) 6 (pc' := 6) (lv' := [(7, .int (v7 + 1)), (6, .int (v6 + (w1 * w0))), (10, .int (w1 * w0)), (0, .ref v0), (2, .int v2), (3, .int v3), (4, .int v4), (5, .int v5), (8, .int v8), (9, .int v9)]) (st' := []) rfl ?_
      have e := Option.some.inj e; subst e; exact wp_lv (lv' := [(0, .ref v0), (2, .int v2), (3, .int v3), (4, .int v4), (5, .int v5), (6, .int (v6 + (w1 * w0))), (7, .int (v7 + 1))]) rfl ⟨rfl, rfl, rfl, rfl, rfl, rfl, rfl, trivial⟩ c
noncomputable def b_Layout_isLetterOn_6 (v0 : Nat) (v2 : Int32) (v3 : Int32) (v4 : Int32) (v5 : Int32) (v6 : Int32) (v7 : Int32) (g : g_S) : Option ((Int32 × Int32) ⊕ ((Unit) ⊕ (Int32 × Int32 × Int32) ⊕ (Unit))) :=
  (rI g 104 v0 2).bind fun z1 =>
  if v7 < z1 then
    if v4 < v6 then
      some (.inr (.inr (.inr ())))
    else
      (rQ g 104 v0 1).bind fun z2 =>
      (aI g 1 z2 v7).bind fun z3 =>
      (M_Bytes_isBlank z3 g).bind fun z4 =>
      if z4 = 0 then
        (M_Bytes_glyphWidth z3 g).bind fun z5 =>
        k_Layout_isLetterOn_53 v0 v2 v3 v4 v5 v6 v7 z3 z4 z5 v3 g
      else
        k_Layout_isLetterOn_53 v0 v2 v3 v4 v5 v6 v7 z3 z4 3 v3 g
  else
    some (.inr (.inr (.inr ())))
set_option maxRecDepth 20000 in
theorem y_Layout_isLetterOn_6 {L : Nat} {xs : Nat → Int32} {Q : Option Value → ab_H → Prop} {v0 : Nat} {v2 : Int32} {v3 : Int32} {v4 : Int32} {v5 : Int32} {v6 : Int32} {v7 : Int32} {g : g_S} {out : (Int32 × Int32) ⊕ ((Unit) ⊕ (Int32 × Int32 × Int32) ⊕ (Unit))} (e : b_Layout_isLetterOn_6 v0 v2 v3 v4 v5 v6 v7 g = some out) (c : cL_Layout_isLetterOn_6 L xs Q v0 v2 v3 v4 v5 g out) : wp (ab_ext L xs) J_Layout_isLetterOn 6 [(0, .ref v0), (2, .int v2), (3, .int v3), (4, .int v4), (5, .int v5), (6, .int v6), (7, .int v7)] [] (hp g) Q := by
  unfold b_Layout_isLetterOn_6 at e
  refine wp_p (j := J_Layout_isLetterOn) 2 (pc' := 9) (lv' := [(0, .ref v0), (2, .int v2), (3, .int v3), (4, .int v4), (5, .int v5), (6, .int v6), (7, .int v7)]) (st' := [.ref v0, .int v7]) rfl ?_
  refine x_gI e rfl rfl fd_4_2 rfl (fun z1 e => ?_)
  refine x_ge e rfl (fun e => ?_) (fun e => ?_)
  · refine wp_p (j := J_Layout_isLetterOn) 2 (pc' := 19) (lv' := [(0, .ref v0), (2, .int v2), (3, .int v3), (4, .int v4), (5, .int v5), (6, .int v6), (7, .int v7)]) (st' := [.int v4, .int v6]) rfl ?_
    refine x_gt e rfl (fun e => ?_) (fun e => ?_)
    · have e := Option.some.inj e; subst e; exact wp_lv (lv' := []) rfl trivial c
    · refine wp_p (j := J_Layout_isLetterOn) 1 (pc' := 23) (lv' := [(0, .ref v0), (2, .int v2), (3, .int v3), (4, .int v4), (5, .int v5), (6, .int v6), (7, .int v7)]) (st' := [.ref v0]) rfl ?_
      refine x_gQ e rfl rfl fd_4_1 rfl (fun z2 e => ?_)
      refine wp_p (j := J_Layout_isLetterOn) 1 (pc' := 28) (lv' := [(0, .ref v0), (2, .int v2), (3, .int v3), (4, .int v4), (5, .int v5), (6, .int v6), (7, .int v7)]) (st' := [.int v7, .ref z2]) rfl ?_
      refine x_aB e rfl (.inl rfl) rfl (fun z3 e => ?_)
      refine wp_p (j := J_Layout_isLetterOn) 2 (pc' := 33) (lv' := [(8, .int z3), (0, .ref v0), (2, .int v2), (3, .int v3), (4, .int v4), (5, .int v5), (6, .int v6), (7, .int v7)]) (st' := [.int z3]) rfl ?_
      refine x_cs1 (As := [.int z3]) (rest := []) Value.int e rfl rfl rfl rfl rfl (fun h => d_Bytes_isBlank h ⟨rfl, rfl⟩) (fun z4 e => ?_)
      refine wp_p (j := J_Layout_isLetterOn) 3 (pc' := 41) (lv' := [(9, .int z4), (8, .int z3), (0, .ref v0), (2, .int v2), (3, .int v3), (4, .int v4), (5, .int v5), (6, .int v6), (7, .int v7)]) (st' := [.int z4, .int v3]) rfl ?_
      refine z_eq e rfl (fun e => ?_) (fun e => ?_)
      · refine wp_p (j := J_Layout_isLetterOn) 1 (pc' := 50) (lv' := [(9, .int z4), (8, .int z3), (0, .ref v0), (2, .int v2), (3, .int v3), (4, .int v4), (5, .int v5), (6, .int v6), (7, .int v7)]) (st' := [.int z3, .int v3]) rfl ?_
        refine x_cs1 (As := [.int z3]) (rest := [.int v3]) Value.int e rfl rfl rfl rfl rfl (fun h => d_Bytes_glyphWidth h ⟨rfl, rfl⟩) (fun z5 e => ?_)
        exact wp_lv (lv' := [(0, .ref v0), (2, .int v2), (3, .int v3), (4, .int v4), (5, .int v5), (6, .int v6), (7, .int v7), (8, .int z3), (9, .int z4)]) rfl ⟨rfl, rfl, rfl, rfl, rfl, rfl, rfl, rfl, rfl, trivial⟩ (x_Layout_isLetterOn_53 e c)
      · refine wp_p (j := J_Layout_isLetterOn) 2 (pc' := 53) (lv' := [(9, .int z4), (8, .int z3), (0, .ref v0), (2, .int v2), (3, .int v3), (4, .int v4), (5, .int v5), (6, .int v6), (7, .int v7)]) (st' := [.int 3, .int v3]) rfl ?_
        exact wp_lv (lv' := [(0, .ref v0), (2, .int v2), (3, .int v3), (4, .int v4), (5, .int v5), (6, .int v6), (7, .int v7), (8, .int z3), (9, .int z4)]) rfl ⟨rfl, rfl, rfl, rfl, rfl, rfl, rfl, rfl, rfl, trivial⟩ (x_Layout_isLetterOn_53 e c)
  · have e := Option.some.inj e; subst e; exact wp_lv (lv' := []) rfl trivial c
noncomputable def L_Layout_isLetterOn_6 (v0 : Nat) (v2 : Int32) (v3 : Int32) (v4 : Int32) (v5 : Int32) (v6 : Int32) (v7 : Int32) (g : g_S) : Option ((Unit) ⊕ (Int32 × Int32 × Int32) ⊕ (Unit)) := it (fun s : Int32 × Int32 => b_Layout_isLetterOn_6 v0 v2 v3 v4 v5 s.1 s.2 g) (v6, v7)
theorem l_Layout_isLetterOn_6 {L : Nat} {xs : Nat → Int32} {Q : Option Value → ab_H → Prop} {v0 : Nat} {v2 : Int32} {v3 : Int32} {v4 : Int32} {v5 : Int32} {v6 : Int32} {v7 : Int32} {g : g_S} {r : (Unit) ⊕ (Int32 × Int32 × Int32) ⊕ (Unit)} (e : L_Layout_isLetterOn_6 v0 v2 v3 v4 v5 v6 v7 g = some r) (c : cL_Layout_isLetterOn_6 L xs Q v0 v2 v3 v4 v5 g (.inr r)) : wp (ab_ext L xs) J_Layout_isLetterOn 6 [(0, .ref v0), (2, .int v2), (3, .int v3), (4, .int v4), (5, .int v5), (6, .int v6), (7, .int v7)] [] (hp g) Q :=
  it_wp (P := fun s : Int32 × Int32 => wp (ab_ext L xs) J_Layout_isLetterOn 6 [(0, .ref v0), (2, .int v2), (3, .int v3), (4, .int v4), (5, .int v5), (6, .int s.1), (7, .int s.2)] [] (hp g) Q) (E := fun r => cL_Layout_isLetterOn_6 L xs Q v0 v2 v3 v4 v5 g (.inr r)) (fun s out e c => y_Layout_isLetterOn_6 e (by cases out <;> exact c)) e c
theorem L_Layout_isLetterOn_6_eq (v0 : Nat) (v2 : Int32) (v3 : Int32) (v4 : Int32) (v5 : Int32) (v6 : Int32) (v7 : Int32) (g : g_S) : L_Layout_isLetterOn_6 v0 v2 v3 v4 v5 v6 v7 g = itc (b_Layout_isLetterOn_6 v0 v2 v3 v4 v5 v6 v7 g) (fun s => L_Layout_isLetterOn_6 v0 v2 v3 v4 v5 s.1 s.2 g) := it_eq2 (fun s : Int32 × Int32 => b_Layout_isLetterOn_6 v0 v2 v3 v4 v5 s.1 s.2 g) (v6, v7)
noncomputable def M_Layout_isLetterOn (v0 : Nat) (v1 : Int32) (v2 : Int32) (v3 : Int32) (v4 : Int32) (v5 : Int32) (g : g_S) : Option Int32 :=
  (L_Layout_isLetterOn_6 v0 v2 v3 v4 v5 0 v1 g).bind <|
    us (fun _ =>
    some 0)
    (us (u3 fun z3 z4 z5 =>
    if z5 = 0 then
      (M_Layout_isGlyphOn z4 v3 (v4 - z3) v5 g).bind fun z6 =>
      if z6 = 0 then
        some 0
      else
        some 1
    else
      some 0)
    (fun _ =>
    some 0))
set_option maxRecDepth 20000 in
theorem d_Layout_isLetterOn {L : Nat} {xs : Nat → Int32} {Q : Option Value → ab_H → Prop} {v0 : Nat} {v1 : Int32} {v2 : Int32} {v3 : Int32} {v4 : Int32} {v5 : Int32} {g : g_S} {out : Int32} (e : M_Layout_isLetterOn v0 v1 v2 v3 v4 v5 g = some out) (c : Q (some (.int out)) (hp g)) : mw (ab_ext L xs) J_Layout_isLetterOn [.ref v0, .int v1, .int v2, .int v3, .int v4, .int v5] (hp g) Q := by
  unfold M_Layout_isLetterOn at e
  refine wp_p (j := J_Layout_isLetterOn) 4 (pc' := 6) (lv' := [(7, .int v1), (6, .int 0), (0, .ref v0), (1, .int v1), (2, .int v2), (3, .int v3), (4, .int v4), (5, .int v5)]) (st' := []) rfl ?_
  obtain ⟨s1, h2, e⟩ := bd e
  refine wp_lv (lv' := [(0, .ref v0), (2, .int v2), (3, .int v3), (4, .int v4), (5, .int v5), (6, .int 0), (7, .int v1)]) rfl ⟨rfl, rfl, rfl, rfl, rfl, rfl, rfl, trivial⟩ ?_
  refine l_Layout_isLetterOn_6 h2 ?_
  rcases s1 with _ | ⟨z3, z4, z5⟩ | _
  · replace e := (us_l e)
    show wp (ab_ext L xs) J_Layout_isLetterOn 65 [] [] (hp g) Q
    refine wp_p (j := J_Layout_isLetterOn) 1 (pc' := 66) (lv' := []) (st' := [.int 0]) rfl ?_
    have e := Option.some.inj e; subst e; exact wp_iret (ty := .boolean) rfl rfl (by decide) c
  · replace e := (u3_e (us_l (us_r e)))
    show wp (ab_ext L xs) J_Layout_isLetterOn 77 [(3, .int v3), (4, .int v4), (5, .int v5), (6, .int z3), (8, .int z4), (9, .int z5)] [] (hp g) Q
    refine wp_p (j := J_Layout_isLetterOn) 1 (pc' := 79) (lv' := [(3, .int v3), (4, .int v4), (5, .int v5), (6, .int z3), (8, .int z4), (9, .int z5)]) (st' := [.int z5]) rfl ?_
    refine z_ne e rfl (fun e => ?_) (fun e => ?_)
    · refine wp_p (j := J_Layout_isLetterOn) 6 (pc' := 92) (lv' := [(3, .int v3), (4, .int v4), (5, .int v5), (6, .int z3), (8, .int z4), (9, .int z5)]) (st' := [.int v5, .int (v4 - z3), .int v3, .int z4]) rfl ?_
      refine x_cs1 (As := [.int z4, .int v3, .int (v4 - z3), .int v5]) (rest := []) Value.int e rfl rfl rfl rfl rfl (fun h => d_Layout_isGlyphOn h ⟨rfl, rfl⟩) (fun z6 e => ?_)
      refine z_eq e rfl (fun e => ?_) (fun e => ?_)
      · refine wp_p (j := J_Layout_isLetterOn) 1 (pc' := 103) (lv' := [(3, .int v3), (4, .int v4), (5, .int v5), (6, .int z3), (8, .int z4), (9, .int z5)]) (st' := [.int 0]) rfl ?_
        have e := Option.some.inj e; subst e; exact wp_iret (ty := .boolean) rfl rfl (by decide) c
      · refine wp_p (j := J_Layout_isLetterOn) 2 (pc' := 103) (lv' := [(3, .int v3), (4, .int v4), (5, .int v5), (6, .int z3), (8, .int z4), (9, .int z5)]) (st' := [.int 1]) rfl ?_
        have e := Option.some.inj e; subst e; exact wp_iret (ty := .boolean) rfl rfl (by decide) c
    · refine wp_p (j := J_Layout_isLetterOn) 1 (pc' := 103) (lv' := [(3, .int v3), (4, .int v4), (5, .int v5), (6, .int z3), (8, .int z4), (9, .int z5)]) (st' := [.int 0]) rfl ?_
      have e := Option.some.inj e; subst e; exact wp_iret (ty := .boolean) rfl rfl (by decide) c
  · replace e := (us_r (us_r e))
    show wp (ab_ext L xs) J_Layout_isLetterOn 117 [] [] (hp g) Q
    refine wp_p (j := J_Layout_isLetterOn) 1 (pc' := 118) (lv' := []) (st' := [.int 0]) rfl ?_
    have e := Option.some.inj e; subst e; exact wp_iret (ty := .boolean) rfl rfl (by decide) c
noncomputable def k_Layout_pieceColorAt_153 (v2 : Int32) (v3 : Int32) (v5 : Nat) (v6 : Int32) (g : g_S) : Option (Int32 × g_S) :=
  if v6 = 0 then
    (vc g 103 v5 (M_Box_colorAt v5 v2 v3 g)).bind fun z1 =>
    some (z1, g)
  else
    (rI g 103 v5 9).bind fun z2 =>
    some (z2, g)
set_option maxRecDepth 20000 in
theorem x_Layout_pieceColorAt_153 {L : Nat} {xs : Nat → Int32} {Q : Option Value → ab_H → Prop} {v2 : Int32} {v3 : Int32} {v5 : Nat} {v6 : Int32} {g : g_S} {out : Int32 × g_S} (e : k_Layout_pieceColorAt_153 v2 v3 v5 v6 g = some out) (c : Q (some (.int out.1)) (hp out.2)) : wp (ab_ext L xs) J_Layout_pieceColorAt 153 [(2, .int v2), (3, .int v3), (5, .ref v5), (6, .int v6)] [] (hp g) Q := by
  unfold k_Layout_pieceColorAt_153 at e
  refine wp_p (j := J_Layout_pieceColorAt) 1 (pc' := 155) (lv' := [(2, .int v2), (3, .int v3), (5, .ref v5), (6, .int v6)]) (st' := [.int v6]) rfl ?_
  refine z_eq e rfl (fun e => ?_) (fun e => ?_)
  · refine wp_p (j := J_Layout_pieceColorAt) 3 (pc' := 170) (lv' := [(2, .int v2), (3, .int v3), (5, .ref v5), (6, .int v6)]) (st' := [.int v3, .int v2, .ref v5]) rfl ?_
    refine x_cv1 (As := [.int v2, .int v3]) (rest := []) Value.int e rfl rfl rfl rfl rfl rfl (fun h => d_Box_colorAt h ⟨rfl, rfl⟩) (fun z1 e => ?_)
    have e := Option.some.inj e; subst e; exact wp_iret (ty := .int) rfl rfl rfl c
  · refine wp_p (j := J_Layout_pieceColorAt) 1 (pc' := 160) (lv' := [(2, .int v2), (3, .int v3), (5, .ref v5), (6, .int v6)]) (st' := [.ref v5]) rfl ?_
    refine x_gI e rfl rfl fd_3_9 rfl (fun z2 e => ?_)
    refine wp_p (j := J_Layout_pieceColorAt) 1 (pc' := 173) (lv' := [(2, .int v2), (3, .int v3), (5, .ref v5), (6, .int v6)]) (st' := [.int z2]) rfl ?_
    have e := Option.some.inj e; subst e; exact wp_iret (ty := .int) rfl rfl rfl c
noncomputable def k_Layout_pieceColorAt_109 (v2 : Int32) (v3 : Int32) (v5 : Nat) (v7 : Nat) (g : g_S) : Option (Int32 × g_S) :=
  (vc g 103 v5 (M_Box_innerWidth v5 g)).bind fun z1 =>
  (rI g 103 v5 11).bind fun z2 =>
  (rI g 103 v5 2).bind fun z3 =>
  (rI g 103 v5 8).bind fun z4 =>
  (rI g 103 v5 3).bind fun z5 =>
  (rI g 103 v5 8).bind fun z6 =>
  (M_Layout_isLetterOn v7 0 z1 z2 ((v2 - z3) - z4) ((v3 - z5) - z6) g).bind fun z7 =>
  k_Layout_pieceColorAt_153 v2 v3 v5 z7 g
set_option maxRecDepth 20000 in
theorem x_Layout_pieceColorAt_109 {L : Nat} {xs : Nat → Int32} {Q : Option Value → ab_H → Prop} {v2 : Int32} {v3 : Int32} {v5 : Nat} {v7 : Nat} {g : g_S} {out : Int32 × g_S} (e : k_Layout_pieceColorAt_109 v2 v3 v5 v7 g = some out) (c : Q (some (.int out.1)) (hp out.2)) : wp (ab_ext L xs) J_Layout_pieceColorAt 109 [(2, .int v2), (3, .int v3), (5, .ref v5), (7, .ref v7)] [] (hp g) Q := by
  unfold k_Layout_pieceColorAt_109 at e
  refine wp_p (j := J_Layout_pieceColorAt) 3 (pc' := 114) (lv' := [(2, .int v2), (3, .int v3), (5, .ref v5), (7, .ref v7)]) (st' := [.ref v5, .int 0, .ref v7]) rfl ?_
  refine x_cv1 (As := []) (rest := [.int 0, .ref v7]) Value.int e rfl rfl rfl rfl rfl rfl (fun h => d_Box_innerWidth h ⟨rfl, rfl⟩) (fun z1 e => ?_)
  refine wp_p (j := J_Layout_pieceColorAt) 1 (pc' := 119) (lv' := [(2, .int v2), (3, .int v3), (5, .ref v5), (7, .ref v7)]) (st' := [.ref v5, .int z1, .int 0, .ref v7]) rfl ?_
  refine x_gI e rfl rfl fd_3_11 rfl (fun z2 e => ?_)
  refine wp_p (j := J_Layout_pieceColorAt) 2 (pc' := 125) (lv' := [(2, .int v2), (3, .int v3), (5, .ref v5), (7, .ref v7)]) (st' := [.ref v5, .int v2, .int z2, .int z1, .int 0, .ref v7]) rfl ?_
  refine x_gI e rfl rfl fd_3_2 rfl (fun z3 e => ?_)
  refine wp_p (j := J_Layout_pieceColorAt) 2 (pc' := 131) (lv' := [(2, .int v2), (3, .int v3), (5, .ref v5), (7, .ref v7)]) (st' := [.ref v5, .int (v2 - z3), .int z2, .int z1, .int 0, .ref v7]) rfl ?_
  refine x_gI e rfl rfl fd_3_8 rfl (fun z4 e => ?_)
  refine wp_p (j := J_Layout_pieceColorAt) 3 (pc' := 138) (lv' := [(2, .int v2), (3, .int v3), (5, .ref v5), (7, .ref v7)]) (st' := [.ref v5, .int v3, .int ((v2 - z3) - z4), .int z2, .int z1, .int 0, .ref v7]) rfl ?_
  refine x_gI e rfl rfl fd_3_3 rfl (fun z5 e => ?_)
  refine wp_p (j := J_Layout_pieceColorAt) 2 (pc' := 144) (lv' := [(2, .int v2), (3, .int v3), (5, .ref v5), (7, .ref v7)]) (st' := [.ref v5, .int (v3 - z5), .int ((v2 - z3) - z4), .int z2, .int z1, .int 0, .ref v7]) rfl ?_
  refine x_gI e rfl rfl fd_3_8 rfl (fun z6 e => ?_)
  refine wp_p (j := J_Layout_pieceColorAt) 1 (pc' := 148) (lv' := [(2, .int v2), (3, .int v3), (5, .ref v5), (7, .ref v7)]) (st' := [.int ((v3 - z5) - z6), .int ((v2 - z3) - z4), .int z2, .int z1, .int 0, .ref v7]) rfl ?_
  refine x_cs1 (As := [.ref v7, .int 0, .int z1, .int z2, .int ((v2 - z3) - z4), .int ((v3 - z5) - z6)]) (rest := []) Value.int e rfl rfl rfl rfl rfl (fun h => d_Layout_isLetterOn h ⟨rfl, rfl⟩) (fun z7 e => ?_)
  refine wp_p (j := J_Layout_pieceColorAt) 1 (pc' := 153) (lv' := [(6, .int z7), (2, .int v2), (3, .int v3), (5, .ref v5), (7, .ref v7)]) (st' := []) rfl ?_
  exact wp_lv (lv' := [(2, .int v2), (3, .int v3), (5, .ref v5), (6, .int z7)]) rfl ⟨rfl, rfl, rfl, rfl, trivial⟩ (x_Layout_pieceColorAt_153 e c)
noncomputable def M_Layout_pieceColorAt (v0 : Nat) (v1 : Int32) (v2 : Int32) (v3 : Int32) (g : g_S) : Option (Int32 × g_S) :=
  (rQ g 105 v0 0).bind fun z1 =>
  (rQ g 110 z1 0).bind fun z2 =>
  (aQ g 5 z2 v1).bind fun z3 =>
  (rQ g 105 v0 2).bind fun z4 =>
  (aQ g 8 z4 v1).bind fun z5 =>
  (rI g 107 z3 0).bind fun z6 =>
  if z6 = 12 then
    (vc g 103 z5 (M_Box_holds z5 v2 v3 0 g)).bind fun z7 =>
    if z7 = 0 then
      some ((-1), g)
    else
      (rI g 103 z5 9).bind fun z8 =>
      some (z8, g)
  else
    (rI g 107 z3 16).bind fun z9 =>
    if z9 = 0 then
      (rQ g 107 z3 11).bind fun z10 =>
      (rI g 107 z3 0).bind fun z11 =>
      if z11 = 14 then
        (rI g 103 z5 11).bind fun z12 =>
        c2 (vc g 105 v0 (M_Layout_textWidth v0 v1 z12 g)) fun z13 g14 =>
        (rQ g14 105 v0 7).bind fun z15 =>
        k_Layout_pieceColorAt_109 v2 v3 z5 z15 g14
      else
        k_Layout_pieceColorAt_109 v2 v3 z5 z10 g
    else
      (rI g 103 z5 8).bind fun z16 =>
      (vc g 103 z5 (M_Box_holds z5 v2 v3 z16 g)).bind fun z17 =>
      k_Layout_pieceColorAt_153 v2 v3 z5 z17 g
set_option maxRecDepth 20000 in
theorem d_Layout_pieceColorAt {L : Nat} {xs : Nat → Int32} {Q : Option Value → ab_H → Prop} {v0 : Nat} {v1 : Int32} {v2 : Int32} {v3 : Int32} {g : g_S} {out : Int32 × g_S} (e : M_Layout_pieceColorAt v0 v1 v2 v3 g = some out) (c : Q (some (.int out.1)) (hp out.2)) : mw (ab_ext L xs) J_Layout_pieceColorAt [.ref v0, .int v1, .int v2, .int v3] (hp g) Q := by
  unfold M_Layout_pieceColorAt at e
  refine wp_p (j := J_Layout_pieceColorAt) 1 (pc' := 1) (lv' := [(0, .ref v0), (1, .int v1), (2, .int v2), (3, .int v3)]) (st' := [.ref v0]) rfl ?_
  refine x_gQ e rfl rfl fd_5_0 rfl (fun z1 e => ?_)
  refine x_gQ e rfl rfl fd_10_0 rfl (fun z2 e => ?_)
  refine wp_p (j := J_Layout_pieceColorAt) 1 (pc' := 8) (lv' := [(0, .ref v0), (1, .int v1), (2, .int v2), (3, .int v3)]) (st' := [.int v1, .ref z2]) rfl ?_
  refine x_aQ e rfl rfl rfl (fun z3 e => ?_)
  refine wp_p (j := J_Layout_pieceColorAt) 2 (pc' := 12) (lv' := [(4, .ref z3), (0, .ref v0), (1, .int v1), (2, .int v2), (3, .int v3)]) (st' := [.ref v0]) rfl ?_
  refine x_gQ e rfl rfl fd_5_2 rfl (fun z4 e => ?_)
  refine wp_p (j := J_Layout_pieceColorAt) 1 (pc' := 16) (lv' := [(4, .ref z3), (0, .ref v0), (1, .int v1), (2, .int v2), (3, .int v3)]) (st' := [.int v1, .ref z4]) rfl ?_
  refine x_aQ e rfl rfl rfl (fun z5 e => ?_)
  refine wp_p (j := J_Layout_pieceColorAt) 2 (pc' := 21) (lv' := [(5, .ref z5), (4, .ref z3), (0, .ref v0), (1, .int v1), (2, .int v2), (3, .int v3)]) (st' := [.ref z3]) rfl ?_
  refine x_gI e rfl rfl fd_7_0 rfl (fun z6 e => ?_)
  refine wp_p (j := J_Layout_pieceColorAt) 1 (pc' := 26) (lv' := [(5, .ref z5), (4, .ref z3), (0, .ref v0), (1, .int v1), (2, .int v2), (3, .int v3)]) (st' := [.int 12, .int z6]) rfl ?_
  refine x_ne e rfl (fun e => ?_) (fun e => ?_)
  · refine wp_p (j := J_Layout_pieceColorAt) 4 (pc' := 34) (lv' := [(5, .ref z5), (4, .ref z3), (0, .ref v0), (1, .int v1), (2, .int v2), (3, .int v3)]) (st' := [.int 0, .int v3, .int v2, .ref z5]) rfl ?_
    refine x_cv1 (As := [.int v2, .int v3, .int 0]) (rest := []) Value.int e rfl rfl rfl rfl rfl rfl (fun h => d_Box_holds h ⟨rfl, rfl⟩) (fun z7 e => ?_)
    refine z_eq e rfl (fun e => ?_) (fun e => ?_)
    · refine wp_p (j := J_Layout_pieceColorAt) 1 (pc' := 49) (lv' := [(5, .ref z5), (4, .ref z3), (0, .ref v0), (1, .int v1), (2, .int v2), (3, .int v3)]) (st' := [.int (-1)]) rfl ?_
      have e := Option.some.inj e; subst e; exact wp_iret (ty := .int) rfl rfl rfl c
    · refine wp_p (j := J_Layout_pieceColorAt) 1 (pc' := 42) (lv' := [(5, .ref z5), (4, .ref z3), (0, .ref v0), (1, .int v1), (2, .int v2), (3, .int v3)]) (st' := [.ref z5]) rfl ?_
      refine x_gI e rfl rfl fd_3_9 rfl (fun z8 e => ?_)
      refine wp_p (j := J_Layout_pieceColorAt) 1 (pc' := 49) (lv' := [(5, .ref z5), (4, .ref z3), (0, .ref v0), (1, .int v1), (2, .int v2), (3, .int v3)]) (st' := [.int z8]) rfl ?_
      have e := Option.some.inj e; subst e; exact wp_iret (ty := .int) rfl rfl rfl c
  · refine wp_p (j := J_Layout_pieceColorAt) 1 (pc' := 52) (lv' := [(5, .ref z5), (4, .ref z3), (0, .ref v0), (1, .int v1), (2, .int v2), (3, .int v3)]) (st' := [.ref z3]) rfl ?_
    refine x_gI e rfl rfl fd_7_16 rfl (fun z9 e => ?_)
    refine z_eq e rfl (fun e => ?_) (fun e => ?_)
    · refine wp_p (j := J_Layout_pieceColorAt) 1 (pc' := 77) (lv' := [(5, .ref z5), (4, .ref z3), (0, .ref v0), (1, .int v1), (2, .int v2), (3, .int v3)]) (st' := [.ref z3]) rfl ?_
      refine x_gQ e rfl rfl fd_7_11 rfl (fun z10 e => ?_)
      refine wp_p (j := J_Layout_pieceColorAt) 2 (pc' := 84) (lv' := [(7, .ref z10), (5, .ref z5), (4, .ref z3), (0, .ref v0), (1, .int v1), (2, .int v2), (3, .int v3)]) (st' := [.ref z3]) rfl ?_
      refine x_gI e rfl rfl fd_7_0 rfl (fun z11 e => ?_)
      refine wp_p (j := J_Layout_pieceColorAt) 1 (pc' := 89) (lv' := [(7, .ref z10), (5, .ref z5), (4, .ref z3), (0, .ref v0), (1, .int v1), (2, .int v2), (3, .int v3)]) (st' := [.int 14, .int z11]) rfl ?_
      refine x_ne e rfl (fun e => ?_) (fun e => ?_)
      · refine wp_p (j := J_Layout_pieceColorAt) 3 (pc' := 96) (lv' := [(7, .ref z10), (5, .ref z5), (4, .ref z3), (0, .ref v0), (1, .int v1), (2, .int v2), (3, .int v3)]) (st' := [.ref z5, .int v1, .ref v0]) rfl ?_
        refine x_gI e rfl rfl fd_3_11 rfl (fun z12 e => ?_)
        refine x_cv2 (As := [.int v1, .int z12]) (rest := []) Value.int e rfl rfl rfl rfl rfl rfl (fun h => d_Layout_textWidth h ⟨rfl, rfl⟩) (fun z13 g14 e => ?_)
        refine wp_p (j := J_Layout_pieceColorAt) 2 (pc' := 104) (lv' := [(7, .ref z10), (5, .ref z5), (4, .ref z3), (0, .ref v0), (1, .int v1), (2, .int v2), (3, .int v3)]) (st' := [.ref v0]) rfl ?_
        refine x_gQ e rfl rfl fd_5_7 rfl (fun z15 e => ?_)
        refine wp_p (j := J_Layout_pieceColorAt) 1 (pc' := 109) (lv' := [(7, .ref z15), (5, .ref z5), (4, .ref z3), (0, .ref v0), (1, .int v1), (2, .int v2), (3, .int v3)]) (st' := []) rfl ?_
        exact wp_lv (lv' := [(2, .int v2), (3, .int v3), (5, .ref z5), (7, .ref z15)]) rfl ⟨rfl, rfl, rfl, rfl, trivial⟩ (x_Layout_pieceColorAt_109 e c)
      · exact wp_lv (lv' := [(2, .int v2), (3, .int v3), (5, .ref z5), (7, .ref z10)]) rfl ⟨rfl, rfl, rfl, rfl, trivial⟩ (x_Layout_pieceColorAt_109 e c)
    · refine wp_p (j := J_Layout_pieceColorAt) 4 (pc' := 64) (lv' := [(5, .ref z5), (4, .ref z3), (0, .ref v0), (1, .int v1), (2, .int v2), (3, .int v3)]) (st' := [.ref z5, .int v3, .int v2, .ref z5]) rfl ?_
      refine x_gI e rfl rfl fd_3_8 rfl (fun z16 e => ?_)
      refine x_cv1 (As := [.int v2, .int v3, .int z16]) (rest := []) Value.int e rfl rfl rfl rfl rfl rfl (fun h => d_Box_holds h ⟨rfl, rfl⟩) (fun z17 e => ?_)
      refine wp_p (j := J_Layout_pieceColorAt) 2 (pc' := 153) (lv' := [(6, .int z17), (5, .ref z5), (4, .ref z3), (0, .ref v0), (1, .int v1), (2, .int v2), (3, .int v3)]) (st' := []) rfl ?_
      exact wp_lv (lv' := [(2, .int v2), (3, .int v3), (5, .ref z5), (6, .int z17)]) rfl ⟨rfl, rfl, rfl, rfl, trivial⟩ (x_Layout_pieceColorAt_153 e c)
def cL_Layout_wordAt_6 (L : Nat) (xs : Nat → Int32) (Q : Option Value → ab_H → Prop) (v0 : Nat) (v1 : Nat) (v2 : Int32) (v3 : Int32) (g : g_S) (out : (Int32) ⊕ ((Int32) ⊕ (Unit))) : Prop := match out with
  | .inl s => wp (ab_ext L xs) J_Layout_wordAt 6 [(0, .ref v0), (1, .ref v1), (2, .int v2), (3, .int v3), (4, .int s)] [] (hp g) Q
  | .inr (.inl s) => wp (ab_ext L xs) J_Layout_wordAt 93 [(4, .int s)] [] (hp g) Q
  | .inr (.inr s) => wp (ab_ext L xs) J_Layout_wordAt 102 [] [] (hp g) Q
noncomputable def b_Layout_wordAt_6 (v0 : Nat) (v1 : Nat) (v2 : Int32) (v3 : Int32) (v4 : Int32) (g : g_S) : Option ((Int32) ⊕ ((Int32) ⊕ (Unit))) :=
  (rI g 103 v1 18).bind fun z1 =>
  (rI g 103 v1 19).bind fun z2 =>
  if v4 < (z1 + z2) then
    (rQ g 105 v0 5).bind fun z3 =>
    (aI g 0 z3 ((v4 * 6) + 3)).bind fun z4 =>
    (rQ g 105 v0 5).bind fun z5 =>
    (aI g 0 z5 ((v4 * 6) + 4)).bind fun z6 =>
    if v2 < z4 then
      some (.inl (v4 + 1))
    else
      (rQ g 105 v0 5).bind fun z7 =>
      (aI g 0 z7 ((v4 * 6) + 5)).bind fun z8 =>
      if v2 < (z4 + z8) then
        if v3 < z6 then
          some (.inl (v4 + 1))
        else
          (rI g 103 v1 11).bind fun z9 =>
          if v3 < (z6 + (7 * z9)) then
            some (.inr (.inl v4))
          else
            some (.inl (v4 + 1))
      else
        some (.inl (v4 + 1))
  else
    some (.inr (.inr ()))
set_option maxRecDepth 20000 in
theorem y_Layout_wordAt_6 {L : Nat} {xs : Nat → Int32} {Q : Option Value → ab_H → Prop} {v0 : Nat} {v1 : Nat} {v2 : Int32} {v3 : Int32} {v4 : Int32} {g : g_S} {out : (Int32) ⊕ ((Int32) ⊕ (Unit))} (e : b_Layout_wordAt_6 v0 v1 v2 v3 v4 g = some out) (c : cL_Layout_wordAt_6 L xs Q v0 v1 v2 v3 g out) : wp (ab_ext L xs) J_Layout_wordAt 6 [(0, .ref v0), (1, .ref v1), (2, .int v2), (3, .int v3), (4, .int v4)] [] (hp g) Q := by
  unfold b_Layout_wordAt_6 at e
  refine wp_p (j := J_Layout_wordAt) 2 (pc' := 9) (lv' := [(0, .ref v0), (1, .ref v1), (2, .int v2), (3, .int v3), (4, .int v4)]) (st' := [.ref v1, .int v4]) rfl ?_
  refine x_gI e rfl rfl fd_3_18 rfl (fun z1 e => ?_)
  refine wp_p (j := J_Layout_wordAt) 1 (pc' := 13) (lv' := [(0, .ref v0), (1, .ref v1), (2, .int v2), (3, .int v3), (4, .int v4)]) (st' := [.ref v1, .int z1, .int v4]) rfl ?_
  refine x_gI e rfl rfl fd_3_19 rfl (fun z2 e => ?_)
  refine wp_p (j := J_Layout_wordAt) 1 (pc' := 17) (lv' := [(0, .ref v0), (1, .ref v1), (2, .int v2), (3, .int v3), (4, .int v4)]) (st' := [.int (z1 + z2), .int v4]) rfl ?_
  refine x_ge e rfl (fun e => ?_) (fun e => ?_)
  · refine wp_p (j := J_Layout_wordAt) 1 (pc' := 21) (lv' := [(0, .ref v0), (1, .ref v1), (2, .int v2), (3, .int v3), (4, .int v4)]) (st' := [.ref v0]) rfl ?_
    refine x_gQ e rfl rfl fd_5_5 rfl (fun z3 e => ?_)
    refine wp_p (j := J_Layout_wordAt) 5 (pc' := 31) (lv' := [(0, .ref v0), (1, .ref v1), (2, .int v2), (3, .int v3), (4, .int v4)]) (st' := [.int ((v4 * 6) + 3), .ref z3]) rfl ?_
    refine x_aI e rfl rfl (fun z4 e => ?_)
    refine wp_p (j := J_Layout_wordAt) 2 (pc' := 35) (lv' := [(5, .int z4), (0, .ref v0), (1, .ref v1), (2, .int v2), (3, .int v3), (4, .int v4)]) (st' := [.ref v0]) rfl ?_
    refine x_gQ e rfl rfl fd_5_5 rfl (fun z5 e => ?_)
    refine wp_p (j := J_Layout_wordAt) 5 (pc' := 45) (lv' := [(5, .int z4), (0, .ref v0), (1, .ref v1), (2, .int v2), (3, .int v3), (4, .int v4)]) (st' := [.int ((v4 * 6) + 4), .ref z5]) rfl ?_
    refine x_aI e rfl rfl (fun z6 e => ?_)
    refine wp_p (j := J_Layout_wordAt) 3 (pc' := 51) (lv' := [(6, .int z6), (5, .int z4), (0, .ref v0), (1, .ref v1), (2, .int v2), (3, .int v3), (4, .int v4)]) (st' := [.int z4, .int v2]) rfl ?_
    refine x_lt e rfl (fun e => ?_) (fun e => ?_)
    · refine wp_p (j := J_Layout_wordAt) 2 (pc' := 6) (lv' := [(4, .int (v4 + 1)), (6, .int z6), (5, .int z4), (0, .ref v0), (1, .ref v1), (2, .int v2), (3, .int v3)]) (st' := []) rfl ?_
      have e := Option.some.inj e; subst e; exact wp_lv (lv' := [(0, .ref v0), (1, .ref v1), (2, .int v2), (3, .int v3), (4, .int (v4 + 1))]) rfl ⟨rfl, rfl, rfl, rfl, rfl, trivial⟩ c
    · refine wp_p (j := J_Layout_wordAt) 3 (pc' := 58) (lv' := [(6, .int z6), (5, .int z4), (0, .ref v0), (1, .ref v1), (2, .int v2), (3, .int v3), (4, .int v4)]) (st' := [.ref v0, .int z4, .int v2]) rfl ?_
      refine x_gQ e rfl rfl fd_5_5 rfl (fun z7 e => ?_)
      refine wp_p (j := J_Layout_wordAt) 5 (pc' := 68) (lv' := [(6, .int z6), (5, .int z4), (0, .ref v0), (1, .ref v1), (2, .int v2), (3, .int v3), (4, .int v4)]) (st' := [.int ((v4 * 6) + 5), .ref z7, .int z4, .int v2]) rfl ?_
      refine x_aI e rfl rfl (fun z8 e => ?_)
      refine wp_p (j := J_Layout_wordAt) 1 (pc' := 70) (lv' := [(6, .int z6), (5, .int z4), (0, .ref v0), (1, .ref v1), (2, .int v2), (3, .int v3), (4, .int v4)]) (st' := [.int (z4 + z8), .int v2]) rfl ?_
      refine x_ge e rfl (fun e => ?_) (fun e => ?_)
      · refine wp_p (j := J_Layout_wordAt) 2 (pc' := 76) (lv' := [(6, .int z6), (5, .int z4), (0, .ref v0), (1, .ref v1), (2, .int v2), (3, .int v3), (4, .int v4)]) (st' := [.int z6, .int v3]) rfl ?_
        refine x_lt e rfl (fun e => ?_) (fun e => ?_)
        · refine wp_p (j := J_Layout_wordAt) 2 (pc' := 6) (lv' := [(4, .int (v4 + 1)), (6, .int z6), (5, .int z4), (0, .ref v0), (1, .ref v1), (2, .int v2), (3, .int v3)]) (st' := []) rfl ?_
          have e := Option.some.inj e; subst e; exact wp_lv (lv' := [(0, .ref v0), (1, .ref v1), (2, .int v2), (3, .int v3), (4, .int (v4 + 1))]) rfl ⟨rfl, rfl, rfl, rfl, rfl, trivial⟩ c
        · refine wp_p (j := J_Layout_wordAt) 4 (pc' := 85) (lv' := [(6, .int z6), (5, .int z4), (0, .ref v0), (1, .ref v1), (2, .int v2), (3, .int v3), (4, .int v4)]) (st' := [.ref v1, .int 7, .int z6, .int v3]) rfl ?_
          refine x_gI e rfl rfl fd_3_11 rfl (fun z9 e => ?_)
          refine wp_p (j := J_Layout_wordAt) 2 (pc' := 90) (lv' := [(6, .int z6), (5, .int z4), (0, .ref v0), (1, .ref v1), (2, .int v2), (3, .int v3), (4, .int v4)]) (st' := [.int (z6 + (7 * z9)), .int v3]) rfl ?_
          refine x_ge e rfl (fun e => ?_) (fun e => ?_)
          · have e := Option.some.inj e; subst e; exact wp_lv (lv' := [(4, .int v4)]) rfl ⟨rfl, trivial⟩ c
          · refine wp_p (j := J_Layout_wordAt) 2 (pc' := 6) (lv' := [(4, .int (v4 + 1)), (6, .int z6), (5, .int z4), (0, .ref v0), (1, .ref v1), (2, .int v2), (3, .int v3)]) (st' := []) rfl ?_
            have e := Option.some.inj e; subst e; exact wp_lv (lv' := [(0, .ref v0), (1, .ref v1), (2, .int v2), (3, .int v3), (4, .int (v4 + 1))]) rfl ⟨rfl, rfl, rfl, rfl, rfl, trivial⟩ c
      · refine wp_p (j := J_Layout_wordAt) 2 (pc' := 6) (lv' := [(4, .int (v4 + 1)), (6, .int z6), (5, .int z4), (0, .ref v0), (1, .ref v1), (2, .int v2), (3, .int v3)]) (st' := []) rfl ?_
        have e := Option.some.inj e; subst e; exact wp_lv (lv' := [(0, .ref v0), (1, .ref v1), (2, .int v2), (3, .int v3), (4, .int (v4 + 1))]) rfl ⟨rfl, rfl, rfl, rfl, rfl, trivial⟩ c
  · have e := Option.some.inj e; subst e; exact wp_lv (lv' := []) rfl trivial c
noncomputable def L_Layout_wordAt_6 (v0 : Nat) (v1 : Nat) (v2 : Int32) (v3 : Int32) (v4 : Int32) (g : g_S) : Option ((Int32) ⊕ (Unit)) := it (fun s : Int32 => b_Layout_wordAt_6 v0 v1 v2 v3 s g) (v4)
theorem l_Layout_wordAt_6 {L : Nat} {xs : Nat → Int32} {Q : Option Value → ab_H → Prop} {v0 : Nat} {v1 : Nat} {v2 : Int32} {v3 : Int32} {v4 : Int32} {g : g_S} {r : (Int32) ⊕ (Unit)} (e : L_Layout_wordAt_6 v0 v1 v2 v3 v4 g = some r) (c : cL_Layout_wordAt_6 L xs Q v0 v1 v2 v3 g (.inr r)) : wp (ab_ext L xs) J_Layout_wordAt 6 [(0, .ref v0), (1, .ref v1), (2, .int v2), (3, .int v3), (4, .int v4)] [] (hp g) Q :=
  it_wp (P := fun s : Int32 => wp (ab_ext L xs) J_Layout_wordAt 6 [(0, .ref v0), (1, .ref v1), (2, .int v2), (3, .int v3), (4, .int s)] [] (hp g) Q) (E := fun r => cL_Layout_wordAt_6 L xs Q v0 v1 v2 v3 g (.inr r)) (fun s out e c => y_Layout_wordAt_6 e (by cases out <;> exact c)) e c
theorem L_Layout_wordAt_6_eq (v0 : Nat) (v1 : Nat) (v2 : Int32) (v3 : Int32) (v4 : Int32) (g : g_S) : L_Layout_wordAt_6 v0 v1 v2 v3 v4 g = itc (b_Layout_wordAt_6 v0 v1 v2 v3 v4 g) (fun s => L_Layout_wordAt_6 v0 v1 v2 v3 s g) := it_eq2 (fun s : Int32 => b_Layout_wordAt_6 v0 v1 v2 v3 s g) (v4)
noncomputable def M_Layout_wordAt (v0 : Nat) (v1 : Nat) (v2 : Int32) (v3 : Int32) (g : g_S) : Option Int32 :=
  (rI g 103 v1 18).bind fun z1 =>
  (L_Layout_wordAt_6 v0 v1 v2 v3 z1 g).bind <|
    us (fun z4 =>
    some z4)
    (fun _ =>
    some (-1))
set_option maxRecDepth 20000 in
theorem d_Layout_wordAt {L : Nat} {xs : Nat → Int32} {Q : Option Value → ab_H → Prop} {v0 : Nat} {v1 : Nat} {v2 : Int32} {v3 : Int32} {g : g_S} {out : Int32} (e : M_Layout_wordAt v0 v1 v2 v3 g = some out) (c : Q (some (.int out)) (hp g)) : mw (ab_ext L xs) J_Layout_wordAt [.ref v0, .ref v1, .int v2, .int v3] (hp g) Q := by
  unfold M_Layout_wordAt at e
  refine wp_p (j := J_Layout_wordAt) 1 (pc' := 1) (lv' := [(0, .ref v0), (1, .ref v1), (2, .int v2), (3, .int v3)]) (st' := [.ref v1]) rfl ?_
  refine x_gI e rfl rfl fd_3_18 rfl (fun z1 e => ?_)
  refine wp_p (j := J_Layout_wordAt) 1 (pc' := 6) (lv' := [(4, .int z1), (0, .ref v0), (1, .ref v1), (2, .int v2), (3, .int v3)]) (st' := []) rfl ?_
  obtain ⟨s2, h3, e⟩ := bd e
  refine wp_lv (lv' := [(0, .ref v0), (1, .ref v1), (2, .int v2), (3, .int v3), (4, .int z1)]) rfl ⟨rfl, rfl, rfl, rfl, rfl, trivial⟩ ?_
  refine l_Layout_wordAt_6 h3 ?_
  rcases s2 with z4 | _
  · replace e := (us_l e)
    show wp (ab_ext L xs) J_Layout_wordAt 93 [(4, .int z4)] [] (hp g) Q
    refine wp_p (j := J_Layout_wordAt) 1 (pc' := 95) (lv' := [(4, .int z4)]) (st' := [.int z4]) rfl ?_
    have e := Option.some.inj e; subst e; exact wp_iret (ty := .int) rfl rfl rfl c
  · replace e := (us_r e)
    show wp (ab_ext L xs) J_Layout_wordAt 102 [] [] (hp g) Q
    refine wp_p (j := J_Layout_wordAt) 1 (pc' := 103) (lv' := []) (st' := [.int (-1)]) rfl ?_
    have e := Option.some.inj e; subst e; exact wp_iret (ty := .int) rfl rfl rfl c
noncomputable def M_Layout_wordColorAt (v0 : Nat) (v1 : Int32) (v2 : Int32) (v3 : Int32) (g : g_S) : Option Int32 :=
  (rQ g 105 v0 2).bind fun z1 =>
  (aQ g 8 z1 v1).bind fun z2 =>
  (vc g 105 v0 (M_Layout_wordAt v0 z2 v2 v3 g)).bind fun z3 =>
  if z3 = (-1) then
    some (-1)
  else
    (rQ g 105 v0 5).bind fun z4 =>
    (aI g 0 z4 ((z3 * 6) + 1)).bind fun z5 =>
    (rQ g 105 v0 5).bind fun z6 =>
    (aI g 0 z6 ((z3 * 6) + 3)).bind fun z7 =>
    (rQ g 105 v0 5).bind fun z8 =>
    (aI g 0 z8 ((z3 * 6) + 4)).bind fun z9 =>
    (rQ g 105 v0 0).bind fun z10 =>
    (rQ g 110 z10 0).bind fun z11 =>
    (aQ g 5 z11 v1).bind fun z12 =>
    (rQ g 107 z12 11).bind fun z13 =>
    (rQ g 105 v0 5).bind fun z14 =>
    (aI g 0 z14 ((z3 * 6) + 5)).bind fun z15 =>
    (rI g 103 z2 11).bind fun z16 =>
    (M_Layout_isLetterOn z13 z5 z15 z16 (v2 - z7) (v3 - z9) g).bind fun z17 =>
    if z17 = 0 then
      some (-1)
    else
      (rI g 103 z2 9).bind fun z18 =>
      some z18
set_option maxRecDepth 20000 in
theorem d_Layout_wordColorAt {L : Nat} {xs : Nat → Int32} {Q : Option Value → ab_H → Prop} {v0 : Nat} {v1 : Int32} {v2 : Int32} {v3 : Int32} {g : g_S} {out : Int32} (e : M_Layout_wordColorAt v0 v1 v2 v3 g = some out) (c : Q (some (.int out)) (hp g)) : mw (ab_ext L xs) J_Layout_wordColorAt [.ref v0, .int v1, .int v2, .int v3] (hp g) Q := by
  unfold M_Layout_wordColorAt at e
  refine wp_p (j := J_Layout_wordColorAt) 1 (pc' := 1) (lv' := [(0, .ref v0), (1, .int v1), (2, .int v2), (3, .int v3)]) (st' := [.ref v0]) rfl ?_
  refine x_gQ e rfl rfl fd_5_2 rfl (fun z1 e => ?_)
  refine wp_p (j := J_Layout_wordColorAt) 1 (pc' := 5) (lv' := [(0, .ref v0), (1, .int v1), (2, .int v2), (3, .int v3)]) (st' := [.int v1, .ref z1]) rfl ?_
  refine x_aQ e rfl rfl rfl (fun z2 e => ?_)
  refine wp_p (j := J_Layout_wordColorAt) 5 (pc' := 13) (lv' := [(4, .ref z2), (0, .ref v0), (1, .int v1), (2, .int v2), (3, .int v3)]) (st' := [.int v3, .int v2, .ref z2, .ref v0]) rfl ?_
  refine x_cv1 (As := [.ref z2, .int v2, .int v3]) (rest := []) Value.int e rfl rfl rfl rfl rfl rfl (fun h => d_Layout_wordAt h ⟨rfl, rfl⟩) (fun z3 e => ?_)
  refine wp_p (j := J_Layout_wordColorAt) 3 (pc' := 21) (lv' := [(5, .int z3), (4, .ref z2), (0, .ref v0), (1, .int v1), (2, .int v2), (3, .int v3)]) (st' := [.int (-1), .int z3]) rfl ?_
  refine x_ne e rfl (fun e => ?_) (fun e => ?_)
  · refine wp_p (j := J_Layout_wordColorAt) 1 (pc' := 25) (lv' := [(5, .int z3), (4, .ref z2), (0, .ref v0), (1, .int v1), (2, .int v2), (3, .int v3)]) (st' := [.int (-1)]) rfl ?_
    have e := Option.some.inj e; subst e; exact wp_iret (ty := .int) rfl rfl rfl c
  · refine wp_p (j := J_Layout_wordColorAt) 1 (pc' := 27) (lv' := [(5, .int z3), (4, .ref z2), (0, .ref v0), (1, .int v1), (2, .int v2), (3, .int v3)]) (st' := [.ref v0]) rfl ?_
    refine x_gQ e rfl rfl fd_5_5 rfl (fun z4 e => ?_)
    refine wp_p (j := J_Layout_wordColorAt) 5 (pc' := 37) (lv' := [(5, .int z3), (4, .ref z2), (0, .ref v0), (1, .int v1), (2, .int v2), (3, .int v3)]) (st' := [.int ((z3 * 6) + 1), .ref z4]) rfl ?_
    refine x_aI e rfl rfl (fun z5 e => ?_)
    refine wp_p (j := J_Layout_wordColorAt) 3 (pc' := 42) (lv' := [(6, .int z5), (5, .int z3), (4, .ref z2), (0, .ref v0), (1, .int v1), (2, .int v2), (3, .int v3)]) (st' := [.ref v0, .int v2]) rfl ?_
    refine x_gQ e rfl rfl fd_5_5 rfl (fun z6 e => ?_)
    refine wp_p (j := J_Layout_wordColorAt) 5 (pc' := 52) (lv' := [(6, .int z5), (5, .int z3), (4, .ref z2), (0, .ref v0), (1, .int v1), (2, .int v2), (3, .int v3)]) (st' := [.int ((z3 * 6) + 3), .ref z6, .int v2]) rfl ?_
    refine x_aI e rfl rfl (fun z7 e => ?_)
    refine wp_p (j := J_Layout_wordColorAt) 4 (pc' := 58) (lv' := [(7, .int (v2 - z7)), (6, .int z5), (5, .int z3), (4, .ref z2), (0, .ref v0), (1, .int v1), (2, .int v2), (3, .int v3)]) (st' := [.ref v0, .int v3]) rfl ?_
    refine x_gQ e rfl rfl fd_5_5 rfl (fun z8 e => ?_)
    refine wp_p (j := J_Layout_wordColorAt) 5 (pc' := 68) (lv' := [(7, .int (v2 - z7)), (6, .int z5), (5, .int z3), (4, .ref z2), (0, .ref v0), (1, .int v1), (2, .int v2), (3, .int v3)]) (st' := [.int ((z3 * 6) + 4), .ref z8, .int v3]) rfl ?_
    refine x_aI e rfl rfl (fun z9 e => ?_)
    refine wp_p (j := J_Layout_wordColorAt) 3 (pc' := 73) (lv' := [(8, .int (v3 - z9)), (7, .int (v2 - z7)), (6, .int z5), (5, .int z3), (4, .ref z2), (0, .ref v0), (1, .int v1), (2, .int v2), (3, .int v3)]) (st' := [.ref v0]) rfl ?_
    refine x_gQ e rfl rfl fd_5_0 rfl (fun z10 e => ?_)
    refine x_gQ e rfl rfl fd_10_0 rfl (fun z11 e => ?_)
    refine wp_p (j := J_Layout_wordColorAt) 1 (pc' := 80) (lv' := [(8, .int (v3 - z9)), (7, .int (v2 - z7)), (6, .int z5), (5, .int z3), (4, .ref z2), (0, .ref v0), (1, .int v1), (2, .int v2), (3, .int v3)]) (st' := [.int v1, .ref z11]) rfl ?_
    refine x_aQ e rfl rfl rfl (fun z12 e => ?_)
    refine x_gQ e rfl rfl fd_7_11 rfl (fun z13 e => ?_)
    refine wp_p (j := J_Layout_wordColorAt) 2 (pc' := 87) (lv' := [(8, .int (v3 - z9)), (7, .int (v2 - z7)), (6, .int z5), (5, .int z3), (4, .ref z2), (0, .ref v0), (1, .int v1), (2, .int v2), (3, .int v3)]) (st' := [.ref v0, .int z5, .ref z13]) rfl ?_
    refine x_gQ e rfl rfl fd_5_5 rfl (fun z14 e => ?_)
    refine wp_p (j := J_Layout_wordColorAt) 5 (pc' := 97) (lv' := [(8, .int (v3 - z9)), (7, .int (v2 - z7)), (6, .int z5), (5, .int z3), (4, .ref z2), (0, .ref v0), (1, .int v1), (2, .int v2), (3, .int v3)]) (st' := [.int ((z3 * 6) + 5), .ref z14, .int z5, .ref z13]) rfl ?_
    refine x_aI e rfl rfl (fun z15 e => ?_)
    refine wp_p (j := J_Layout_wordColorAt) 1 (pc' := 100) (lv' := [(8, .int (v3 - z9)), (7, .int (v2 - z7)), (6, .int z5), (5, .int z3), (4, .ref z2), (0, .ref v0), (1, .int v1), (2, .int v2), (3, .int v3)]) (st' := [.ref z2, .int z15, .int z5, .ref z13]) rfl ?_
    refine x_gI e rfl rfl fd_3_11 rfl (fun z16 e => ?_)
    refine wp_p (j := J_Layout_wordColorAt) 2 (pc' := 107) (lv' := [(8, .int (v3 - z9)), (7, .int (v2 - z7)), (6, .int z5), (5, .int z3), (4, .ref z2), (0, .ref v0), (1, .int v1), (2, .int v2), (3, .int v3)]) (st' := [.int (v3 - z9), .int (v2 - z7), .int z16, .int z15, .int z5, .ref z13]) rfl ?_
    refine x_cs1 (As := [.ref z13, .int z5, .int z15, .int z16, .int (v2 - z7), .int (v3 - z9)]) (rest := []) Value.int e rfl rfl rfl rfl rfl (fun h => d_Layout_isLetterOn h ⟨rfl, rfl⟩) (fun z17 e => ?_)
    refine wp_p (j := J_Layout_wordColorAt) 2 (pc' := 114) (lv' := [(9, .int z17), (8, .int (v3 - z9)), (7, .int (v2 - z7)), (6, .int z5), (5, .int z3), (4, .ref z2), (0, .ref v0), (1, .int v1), (2, .int v2), (3, .int v3)]) (st' := [.int z17]) rfl ?_
    refine z_eq e rfl (fun e => ?_) (fun e => ?_)
    · refine wp_p (j := J_Layout_wordColorAt) 1 (pc' := 126) (lv' := [(9, .int z17), (8, .int (v3 - z9)), (7, .int (v2 - z7)), (6, .int z5), (5, .int z3), (4, .ref z2), (0, .ref v0), (1, .int v1), (2, .int v2), (3, .int v3)]) (st' := [.int (-1)]) rfl ?_
      have e := Option.some.inj e; subst e; exact wp_iret (ty := .int) rfl rfl rfl c
    · refine wp_p (j := J_Layout_wordColorAt) 1 (pc' := 119) (lv' := [(9, .int z17), (8, .int (v3 - z9)), (7, .int (v2 - z7)), (6, .int z5), (5, .int z3), (4, .ref z2), (0, .ref v0), (1, .int v1), (2, .int v2), (3, .int v3)]) (st' := [.ref z2]) rfl ?_
      refine x_gI e rfl rfl fd_3_9 rfl (fun z18 e => ?_)
      refine wp_p (j := J_Layout_wordColorAt) 1 (pc' := 126) (lv' := [(9, .int z17), (8, .int (v3 - z9)), (7, .int (v2 - z7)), (6, .int z5), (5, .int z3), (4, .ref z2), (0, .ref v0), (1, .int v1), (2, .int v2), (3, .int v3)]) (st' := [.int z18]) rfl ?_
      have e := Option.some.inj e; subst e; exact wp_iret (ty := .int) rfl rfl rfl c
def cL_Layout_colorAt_10 (L : Nat) (xs : Nat → Int32) (Q : Option Value → ab_H → Prop) (v0 : Nat) (v1 : Int32) (v2 : Int32) (out : (Int32 × g_S) ⊕ ((Int32 × g_S) ⊕ (g_S))) : Prop := match out with
  | .inl s => wp (ab_ext L xs) J_Layout_colorAt 10 [(0, .ref v0), (1, .int v1), (2, .int v2), (3, .int s.1)] [] (hp s.2) Q
  | .inr (.inl s) => wp (ab_ext L xs) J_Layout_colorAt 113 [(5, .int s.1)] [] (hp s.2) Q
  | .inr (.inr s) => wp (ab_ext L xs) J_Layout_colorAt 122 [] [] (hp s) Q
noncomputable def k_Layout_colorAt_107 (v0 : Nat) (v1 : Int32) (v2 : Int32) (v3 : Int32) (v5 : Int32) (g : g_S) : Option ((Int32 × g_S) ⊕ ((Int32 × g_S) ⊕ (g_S))) :=
  if v5 = (-1) then
    some (.inl (v3 + (-1), g))
  else
    some (.inr (.inl (v5, g)))
set_option maxRecDepth 20000 in
theorem x_Layout_colorAt_107 {L : Nat} {xs : Nat → Int32} {Q : Option Value → ab_H → Prop} {v0 : Nat} {v1 : Int32} {v2 : Int32} {v3 : Int32} {v5 : Int32} {g : g_S} {out : (Int32 × g_S) ⊕ ((Int32 × g_S) ⊕ (g_S))} (e : k_Layout_colorAt_107 v0 v1 v2 v3 v5 g = some out) (c : cL_Layout_colorAt_10 L xs Q v0 v1 v2 out) : wp (ab_ext L xs) J_Layout_colorAt 107 [(0, .ref v0), (1, .int v1), (2, .int v2), (3, .int v3), (5, .int v5)] [] (hp g) Q := by
  unfold k_Layout_colorAt_107 at e
  refine wp_p (j := J_Layout_colorAt) 2 (pc' := 110) (lv' := [(0, .ref v0), (1, .int v1), (2, .int v2), (3, .int v3), (5, .int v5)]) (st' := [.int (-1), .int v5]) rfl ?_
  refine x_eq e rfl (fun e => ?_) (fun e => ?_)
  · refine wp_p (j := J_Layout_colorAt) 2 (pc' := 10) (lv' := [(3, .int (v3 + (-1))), (0, .ref v0), (1, .int v1), (2, .int v2), (5, .int v5)]) (st' := []) rfl ?_
    have e := Option.some.inj e; subst e; exact wp_lv (lv' := [(0, .ref v0), (1, .int v1), (2, .int v2), (3, .int (v3 + (-1)))]) rfl ⟨rfl, rfl, rfl, rfl, trivial⟩ c
  · have e := Option.some.inj e; subst e; exact wp_lv (lv' := [(5, .int v5)]) rfl ⟨rfl, trivial⟩ c
noncomputable def b_Layout_colorAt_10 (v0 : Nat) (v1 : Int32) (v2 : Int32) (v3 : Int32) (g : g_S) : Option ((Int32 × g_S) ⊕ ((Int32 × g_S) ⊕ (g_S))) :=
  if v3 < 0 then
    some (.inr (.inr g))
  else
    (rQ g 105 v0 0).bind fun z1 =>
    (rQ g 110 z1 2).bind fun z2 =>
    (aI g 0 z2 v3).bind fun z3 =>
    (rQ g 105 v0 2).bind fun z4 =>
    (aQ g 8 z4 z3).bind fun z5 =>
    (rI g 103 z5 0).bind fun z6 =>
    if z6 = 1 then
      (rQ g 105 v0 2).bind fun z8 =>
      (aQ g 8 z8 z3).bind fun z9 =>
      (vc g 103 z9 (M_Box_colorAt z9 v1 v2 g)).bind fun z10 =>
      k_Layout_colorAt_107 v0 v1 v2 v3 z10 g
    else if z6 = 2 then
      c2 (vc g 105 v0 (M_Layout_pieceColorAt v0 z3 v1 v2 g)) fun z12 g13 =>
      k_Layout_colorAt_107 v0 v1 v2 v3 z12 g13
    else if z6 = 3 then
      (vc g 105 v0 (M_Layout_wordColorAt v0 z3 v1 v2 g)).bind fun z15 =>
      k_Layout_colorAt_107 v0 v1 v2 v3 z15 g
    else
      k_Layout_colorAt_107 v0 v1 v2 v3 (-1) g
set_option maxRecDepth 20000 in
theorem y_Layout_colorAt_10 {L : Nat} {xs : Nat → Int32} {Q : Option Value → ab_H → Prop} {v0 : Nat} {v1 : Int32} {v2 : Int32} {v3 : Int32} {g : g_S} {out : (Int32 × g_S) ⊕ ((Int32 × g_S) ⊕ (g_S))} (e : b_Layout_colorAt_10 v0 v1 v2 v3 g = some out) (c : cL_Layout_colorAt_10 L xs Q v0 v1 v2 out) : wp (ab_ext L xs) J_Layout_colorAt 10 [(0, .ref v0), (1, .int v1), (2, .int v2), (3, .int v3)] [] (hp g) Q := by
  unfold b_Layout_colorAt_10 at e
  refine wp_p (j := J_Layout_colorAt) 1 (pc' := 11) (lv' := [(0, .ref v0), (1, .int v1), (2, .int v2), (3, .int v3)]) (st' := [.int v3]) rfl ?_
  refine z_lt e rfl (fun e => ?_) (fun e => ?_)
  · have e := Option.some.inj e; subst e; exact wp_lv (lv' := []) rfl trivial c
  · refine wp_p (j := J_Layout_colorAt) 1 (pc' := 15) (lv' := [(0, .ref v0), (1, .int v1), (2, .int v2), (3, .int v3)]) (st' := [.ref v0]) rfl ?_
    refine x_gQ e rfl rfl fd_5_0 rfl (fun z1 e => ?_)
    refine x_gQ e rfl rfl fd_10_2 rfl (fun z2 e => ?_)
    refine wp_p (j := J_Layout_colorAt) 1 (pc' := 22) (lv' := [(0, .ref v0), (1, .int v1), (2, .int v2), (3, .int v3)]) (st' := [.int v3, .ref z2]) rfl ?_
    refine x_aI e rfl rfl (fun z3 e => ?_)
    refine wp_p (j := J_Layout_colorAt) 4 (pc' := 29) (lv' := [(5, .int (-1)), (4, .int z3), (0, .ref v0), (1, .int v1), (2, .int v2), (3, .int v3)]) (st' := [.ref v0]) rfl ?_
    refine x_gQ e rfl rfl fd_5_2 rfl (fun z4 e => ?_)
    refine wp_p (j := J_Layout_colorAt) 1 (pc' := 34) (lv' := [(5, .int (-1)), (4, .int z3), (0, .ref v0), (1, .int v1), (2, .int v2), (3, .int v3)]) (st' := [.int z3, .ref z4]) rfl ?_
    refine x_aQ e rfl rfl rfl (fun z5 e => ?_)
    refine x_gI e rfl rfl fd_3_0 rfl (fun z6 e => ?_)
    refine x_if e (fun h7 e => ?_) (fun h7 e => ?_)
    · refine x_sw (cst := 1) (pc' := 64) (rest := []) h7 rfl rfl rfl ?_
      refine wp_p (j := J_Layout_colorAt) 1 (pc' := 65) (lv' := [(5, .int (-1)), (4, .int z3), (0, .ref v0), (1, .int v1), (2, .int v2), (3, .int v3)]) (st' := [.ref v0]) rfl ?_
      refine x_gQ e rfl rfl fd_5_2 rfl (fun z8 e => ?_)
      refine wp_p (j := J_Layout_colorAt) 1 (pc' := 70) (lv' := [(5, .int (-1)), (4, .int z3), (0, .ref v0), (1, .int v1), (2, .int v2), (3, .int v3)]) (st' := [.int z3, .ref z8]) rfl ?_
      refine x_aQ e rfl rfl rfl (fun z9 e => ?_)
      refine wp_p (j := J_Layout_colorAt) 2 (pc' := 73) (lv' := [(5, .int (-1)), (4, .int z3), (0, .ref v0), (1, .int v1), (2, .int v2), (3, .int v3)]) (st' := [.int v2, .int v1, .ref z9]) rfl ?_
      refine x_cv1 (As := [.int v1, .int v2]) (rest := []) Value.int e rfl rfl rfl rfl rfl rfl (fun h => d_Box_colorAt h ⟨rfl, rfl⟩) (fun z10 e => ?_)
      refine wp_p (j := J_Layout_colorAt) 2 (pc' := 107) (lv' := [(5, .int z10), (4, .int z3), (0, .ref v0), (1, .int v1), (2, .int v2), (3, .int v3)]) (st' := []) rfl ?_
      exact wp_lv (lv' := [(0, .ref v0), (1, .int v1), (2, .int v2), (3, .int v3), (5, .int z10)]) rfl ⟨rfl, rfl, rfl, rfl, rfl, trivial⟩ (x_Layout_colorAt_107 e c)
    refine x_if e (fun h11 e => ?_) (fun h11 e => ?_)
    · refine x_sw (cst := 2) (pc' := 81) (rest := []) h11 rfl rfl rfl ?_
      refine wp_p (j := J_Layout_colorAt) 4 (pc' := 86) (lv' := [(5, .int (-1)), (4, .int z3), (0, .ref v0), (1, .int v1), (2, .int v2), (3, .int v3)]) (st' := [.int v2, .int v1, .int z3, .ref v0]) rfl ?_
      refine x_cv2 (As := [.int z3, .int v1, .int v2]) (rest := []) Value.int e rfl rfl rfl rfl rfl rfl (fun h => d_Layout_pieceColorAt h ⟨rfl, rfl⟩) (fun z12 g13 e => ?_)
      refine wp_p (j := J_Layout_colorAt) 2 (pc' := 107) (lv' := [(5, .int z12), (4, .int z3), (0, .ref v0), (1, .int v1), (2, .int v2), (3, .int v3)]) (st' := []) rfl ?_
      exact wp_lv (lv' := [(0, .ref v0), (1, .int v1), (2, .int v2), (3, .int v3), (5, .int z12)]) rfl ⟨rfl, rfl, rfl, rfl, rfl, trivial⟩ (x_Layout_colorAt_107 e c)
    refine x_if e (fun h14 e => ?_) (fun h14 e => ?_)
    · refine x_sw (cst := 3) (pc' := 94) (rest := []) h14 rfl rfl rfl ?_
      refine wp_p (j := J_Layout_colorAt) 4 (pc' := 99) (lv' := [(5, .int (-1)), (4, .int z3), (0, .ref v0), (1, .int v1), (2, .int v2), (3, .int v3)]) (st' := [.int v2, .int v1, .int z3, .ref v0]) rfl ?_
      refine x_cv1 (As := [.int z3, .int v1, .int v2]) (rest := []) Value.int e rfl rfl rfl rfl rfl rfl (fun h => d_Layout_wordColorAt h ⟨rfl, rfl⟩) (fun z15 e => ?_)
      refine wp_p (j := J_Layout_colorAt) 2 (pc' := 107) (lv' := [(5, .int z15), (4, .int z3), (0, .ref v0), (1, .int v1), (2, .int v2), (3, .int v3)]) (st' := []) rfl ?_
      exact wp_lv (lv' := [(0, .ref v0), (1, .int v1), (2, .int v2), (3, .int v3), (5, .int z15)]) rfl ⟨rfl, rfl, rfl, rfl, rfl, trivial⟩ (x_Layout_colorAt_107 e c)
    refine wp_b (pc' := 107) (st' := []) rfl rfl ((ts_d (x := z6) (lo := 1) 3 rfl ⟨h7, h11, h14, trivial⟩).trans rfl) ?_
    exact wp_lv (lv' := [(0, .ref v0), (1, .int v1), (2, .int v2), (3, .int v3), (5, .int (-1))]) rfl ⟨rfl, rfl, rfl, rfl, rfl, trivial⟩ (x_Layout_colorAt_107 e c)
noncomputable def L_Layout_colorAt_10 (v0 : Nat) (v1 : Int32) (v2 : Int32) (v3 : Int32) (g : g_S) : Option ((Int32 × g_S) ⊕ (g_S)) := it (fun s : Int32 × g_S => b_Layout_colorAt_10 v0 v1 v2 s.1 s.2) (v3, g)
theorem l_Layout_colorAt_10 {L : Nat} {xs : Nat → Int32} {Q : Option Value → ab_H → Prop} {v0 : Nat} {v1 : Int32} {v2 : Int32} {v3 : Int32} {g : g_S} {r : (Int32 × g_S) ⊕ (g_S)} (e : L_Layout_colorAt_10 v0 v1 v2 v3 g = some r) (c : cL_Layout_colorAt_10 L xs Q v0 v1 v2 (.inr r)) : wp (ab_ext L xs) J_Layout_colorAt 10 [(0, .ref v0), (1, .int v1), (2, .int v2), (3, .int v3)] [] (hp g) Q :=
  it_wp (P := fun s : Int32 × g_S => wp (ab_ext L xs) J_Layout_colorAt 10 [(0, .ref v0), (1, .int v1), (2, .int v2), (3, .int s.1)] [] (hp s.2) Q) (E := fun r => cL_Layout_colorAt_10 L xs Q v0 v1 v2 (.inr r)) (fun s out e c => y_Layout_colorAt_10 e (by cases out <;> exact c)) e c
theorem L_Layout_colorAt_10_eq (v0 : Nat) (v1 : Int32) (v2 : Int32) (v3 : Int32) (g : g_S) : L_Layout_colorAt_10 v0 v1 v2 v3 g = itc (b_Layout_colorAt_10 v0 v1 v2 v3 g) (fun s => L_Layout_colorAt_10 v0 v1 v2 s.1 s.2) := it_eq2 (fun s : Int32 × g_S => b_Layout_colorAt_10 v0 v1 v2 s.1 s.2) (v3, g)
noncomputable def M_Layout_colorAt (v0 : Nat) (v1 : Int32) (v2 : Int32) (g : g_S) : Option (Int32 × g_S) :=
  (rQ g 105 v0 0).bind fun z1 =>
  (rI g 110 z1 3).bind fun z2 =>
  (L_Layout_colorAt_10 v0 v1 v2 (z2 - 1) g).bind <|
    us (u2 fun z5 g6 =>
    some (z5, g6))
    (fun g7 =>
    some (0, g7))
set_option maxRecDepth 20000 in
theorem d_Layout_colorAt {L : Nat} {xs : Nat → Int32} {Q : Option Value → ab_H → Prop} {v0 : Nat} {v1 : Int32} {v2 : Int32} {g : g_S} {out : Int32 × g_S} (e : M_Layout_colorAt v0 v1 v2 g = some out) (c : Q (some (.int out.1)) (hp out.2)) : mw (ab_ext L xs) J_Layout_colorAt [.ref v0, .int v1, .int v2] (hp g) Q := by
  unfold M_Layout_colorAt at e
  refine wp_p (j := J_Layout_colorAt) 1 (pc' := 1) (lv' := [(0, .ref v0), (1, .int v1), (2, .int v2)]) (st' := [.ref v0]) rfl ?_
  refine x_gQ e rfl rfl fd_5_0 rfl (fun z1 e => ?_)
  refine x_gI e rfl rfl fd_10_3 rfl (fun z2 e => ?_)
  refine wp_p (j := J_Layout_colorAt) 3 (pc' := 10) (lv' := [(3, .int (z2 - 1)), (0, .ref v0), (1, .int v1), (2, .int v2)]) (st' := []) rfl ?_
  obtain ⟨s3, h4, e⟩ := bd e
  refine wp_lv (lv' := [(0, .ref v0), (1, .int v1), (2, .int v2), (3, .int (z2 - 1))]) rfl ⟨rfl, rfl, rfl, rfl, trivial⟩ ?_
  refine l_Layout_colorAt_10 h4 ?_
  rcases s3 with ⟨z5, g6⟩ | g7
  · replace e := (u2_e (us_l e))
    show wp (ab_ext L xs) J_Layout_colorAt 113 [(5, .int z5)] [] (hp g6) Q
    refine wp_p (j := J_Layout_colorAt) 1 (pc' := 115) (lv' := [(5, .int z5)]) (st' := [.int z5]) rfl ?_
    have e := Option.some.inj e; subst e; exact wp_iret (ty := .int) rfl rfl rfl c
  · replace e := (us_r e)
    show wp (ab_ext L xs) J_Layout_colorAt 122 [] [] (hp g7) Q
    refine wp_p (j := J_Layout_colorAt) 1 (pc' := 123) (lv' := []) (st' := [.int 0]) rfl ?_
    have e := Option.some.inj e; subst e; exact wp_iret (ty := .int) rfl rfl rfl c
noncomputable def M_H_point (v0 : Nat) (v1 : Int32) (v2 : Int32) (g : g_S) : Option (Int32 × g_S) :=
  (rQ g 111 v0 5).bind fun z1 =>
  (vc g 109 z1 (M_Sheet_refresh z1 g)).bind fun g2 =>
  (rQ g2 111 v0 6).bind fun z3 =>
  (vc g2 105 z3 (M_Layout_refresh z3 g2)).bind fun g4 =>
  (rQ g4 111 v0 6).bind fun z5 =>
  (vc g4 105 z5 (M_Layout_isInPicture z5 v1 v2 g4)).bind fun z6 =>
  if z6 = 0 then
    some ((-1), g4)
  else
    (rQ g4 111 v0 6).bind fun z7 =>
    c2 (vc g4 105 z7 (M_Layout_colorAt z7 v1 v2 g4)) fun z8 g9 =>
    some (z8, g9)
set_option maxRecDepth 20000 in
theorem d_H_point {L : Nat} {xs : Nat → Int32} {Q : Option Value → ab_H → Prop} {v0 : Nat} {v1 : Int32} {v2 : Int32} {g : g_S} {out : Int32 × g_S} (e : M_H_point v0 v1 v2 g = some out) (c : Q (some (.int out.1)) (hp out.2)) : mw (ab_ext L xs) J_H_point [.ref v0, .int v1, .int v2] (hp g) Q := by
  unfold M_H_point at e
  refine wp_p (j := J_H_point) 1 (pc' := 1) (lv' := [(0, .ref v0), (1, .int v1), (2, .int v2)]) (st' := [.ref v0]) rfl ?_
  refine x_gQ e rfl rfl fd_11_5 rfl (fun z1 e => ?_)
  refine x_cv0 (As := []) (rest := []) e rfl rfl rfl rfl rfl rfl (fun h => d_Sheet_refresh h ⟨rfl, rfl⟩) (fun g2 e => ?_)
  refine wp_p (j := J_H_point) 1 (pc' := 8) (lv' := [(0, .ref v0), (1, .int v1), (2, .int v2)]) (st' := [.ref v0]) rfl ?_
  refine x_gQ e rfl rfl fd_11_6 rfl (fun z3 e => ?_)
  refine x_cv0 (As := []) (rest := []) e rfl rfl rfl rfl rfl rfl (fun h => d_Layout_refresh h ⟨rfl, rfl⟩) (fun g4 e => ?_)
  refine wp_p (j := J_H_point) 1 (pc' := 15) (lv' := [(0, .ref v0), (1, .int v1), (2, .int v2)]) (st' := [.ref v0]) rfl ?_
  refine x_gQ e rfl rfl fd_11_6 rfl (fun z5 e => ?_)
  refine wp_p (j := J_H_point) 2 (pc' := 20) (lv' := [(0, .ref v0), (1, .int v1), (2, .int v2)]) (st' := [.int v2, .int v1, .ref z5]) rfl ?_
  refine x_cv1 (As := [.int v1, .int v2]) (rest := []) Value.int e rfl rfl rfl rfl rfl rfl (fun h => d_Layout_isInPicture h ⟨rfl, rfl⟩) (fun z6 e => ?_)
  refine z_eq e rfl (fun e => ?_) (fun e => ?_)
  · refine wp_p (j := J_H_point) 1 (pc' := 39) (lv' := [(0, .ref v0), (1, .int v1), (2, .int v2)]) (st' := [.int (-1)]) rfl ?_
    have e := Option.some.inj e; subst e; exact wp_iret (ty := .int) rfl rfl rfl c
  · refine wp_p (j := J_H_point) 1 (pc' := 27) (lv' := [(0, .ref v0), (1, .int v1), (2, .int v2)]) (st' := [.ref v0]) rfl ?_
    refine x_gQ e rfl rfl fd_11_6 rfl (fun z7 e => ?_)
    refine wp_p (j := J_H_point) 2 (pc' := 32) (lv' := [(0, .ref v0), (1, .int v1), (2, .int v2)]) (st' := [.int v2, .int v1, .ref z7]) rfl ?_
    refine x_cv2 (As := [.int v1, .int v2]) (rest := []) Value.int e rfl rfl rfl rfl rfl rfl (fun h => d_Layout_colorAt h ⟨rfl, rfl⟩) (fun z8 g9 e => ?_)
    refine wp_p (j := J_H_point) 1 (pc' := 39) (lv' := [(0, .ref v0), (1, .int v1), (2, .int v2)]) (st' := [.int z8]) rfl ?_
    have e := Option.some.inj e; subst e; exact wp_iret (ty := .int) rfl rfl rfl c
def cL_Layout_nodeAt_21 (L : Nat) (xs : Nat → Int32) (Q : Option Value → ab_H → Prop) (v0 : Nat) (v1 : Int32) (v2 : Int32) (g : g_S) (out : (Int32) ⊕ ((Int32) ⊕ (Int32) ⊕ (Unit))) : Prop := match out with
  | .inl s => wp (ab_ext L xs) J_Layout_nodeAt 21 [(0, .ref v0), (1, .int v1), (2, .int v2), (3, .int s)] [] (hp g) Q
  | .inr (.inl s) => wp (ab_ext L xs) J_Layout_nodeAt 64 [(4, .int s)] [] (hp g) Q
  | .inr (.inr (.inl s)) => wp (ab_ext L xs) J_Layout_nodeAt 88 [(4, .int s)] [] (hp g) Q
  | .inr (.inr (.inr s)) => wp (ab_ext L xs) J_Layout_nodeAt 97 [] [] (hp g) Q
noncomputable def k_Layout_nodeAt_67 (v0 : Nat) (v1 : Int32) (v2 : Int32) (v3 : Int32) (v4 : Int32) (v5 : Nat) (g : g_S) : Option ((Int32) ⊕ ((Int32) ⊕ (Int32) ⊕ (Unit))) :=
  (rI g 103 v5 0).bind fun z1 =>
  if z1 = 3 then
    (vc g 105 v0 (M_Layout_wordAt v0 v5 v1 v2 g)).bind fun z2 =>
    if z2 = (-1) then
      some (.inl (v3 + (-1)))
    else
      some (.inr (.inr (.inl v4)))
  else
    some (.inl (v3 + (-1)))
set_option maxRecDepth 20000 in
theorem x_Layout_nodeAt_67 {L : Nat} {xs : Nat → Int32} {Q : Option Value → ab_H → Prop} {v0 : Nat} {v1 : Int32} {v2 : Int32} {v3 : Int32} {v4 : Int32} {v5 : Nat} {g : g_S} {out : (Int32) ⊕ ((Int32) ⊕ (Int32) ⊕ (Unit))} (e : k_Layout_nodeAt_67 v0 v1 v2 v3 v4 v5 g = some out) (c : cL_Layout_nodeAt_21 L xs Q v0 v1 v2 g out) : wp (ab_ext L xs) J_Layout_nodeAt 67 [(0, .ref v0), (1, .int v1), (2, .int v2), (3, .int v3), (4, .int v4), (5, .ref v5)] [] (hp g) Q := by
  unfold k_Layout_nodeAt_67 at e
  refine wp_p (j := J_Layout_nodeAt) 1 (pc' := 69) (lv' := [(0, .ref v0), (1, .int v1), (2, .int v2), (3, .int v3), (4, .int v4), (5, .ref v5)]) (st' := [.ref v5]) rfl ?_
  refine x_gI e rfl rfl fd_3_0 rfl (fun z1 e => ?_)
  refine wp_p (j := J_Layout_nodeAt) 1 (pc' := 73) (lv' := [(0, .ref v0), (1, .int v1), (2, .int v2), (3, .int v3), (4, .int v4), (5, .ref v5)]) (st' := [.int 3, .int z1]) rfl ?_
  refine x_ne e rfl (fun e => ?_) (fun e => ?_)
  · refine wp_p (j := J_Layout_nodeAt) 4 (pc' := 81) (lv' := [(0, .ref v0), (1, .int v1), (2, .int v2), (3, .int v3), (4, .int v4), (5, .ref v5)]) (st' := [.int v2, .int v1, .ref v5, .ref v0]) rfl ?_
    refine x_cv1 (As := [.ref v5, .int v1, .int v2]) (rest := []) Value.int e rfl rfl rfl rfl rfl rfl (fun h => d_Layout_wordAt h ⟨rfl, rfl⟩) (fun z2 e => ?_)
    refine wp_p (j := J_Layout_nodeAt) 1 (pc' := 85) (lv' := [(0, .ref v0), (1, .int v1), (2, .int v2), (3, .int v3), (4, .int v4), (5, .ref v5)]) (st' := [.int (-1), .int z2]) rfl ?_
    refine x_eq e rfl (fun e => ?_) (fun e => ?_)
    · refine wp_p (j := J_Layout_nodeAt) 2 (pc' := 21) (lv' := [(3, .int (v3 + (-1))), (0, .ref v0), (1, .int v1), (2, .int v2), (4, .int v4), (5, .ref v5)]) (st' := []) rfl ?_
      have e := Option.some.inj e; subst e; exact wp_lv (lv' := [(0, .ref v0), (1, .int v1), (2, .int v2), (3, .int (v3 + (-1)))]) rfl ⟨rfl, rfl, rfl, rfl, trivial⟩ c
    · have e := Option.some.inj e; subst e; exact wp_lv (lv' := [(4, .int v4)]) rfl ⟨rfl, trivial⟩ c
  · refine wp_p (j := J_Layout_nodeAt) 2 (pc' := 21) (lv' := [(3, .int (v3 + (-1))), (0, .ref v0), (1, .int v1), (2, .int v2), (4, .int v4), (5, .ref v5)]) (st' := []) rfl ?_
    have e := Option.some.inj e; subst e; exact wp_lv (lv' := [(0, .ref v0), (1, .int v1), (2, .int v2), (3, .int (v3 + (-1)))]) rfl ⟨rfl, rfl, rfl, rfl, trivial⟩ c
noncomputable def b_Layout_nodeAt_21 (v0 : Nat) (v1 : Int32) (v2 : Int32) (v3 : Int32) (g : g_S) : Option ((Int32) ⊕ ((Int32) ⊕ (Int32) ⊕ (Unit))) :=
  if v3 < 0 then
    some (.inr (.inr (.inr ())))
  else
    (rQ g 105 v0 0).bind fun z1 =>
    (rQ g 110 z1 2).bind fun z2 =>
    (aI g 0 z2 v3).bind fun z3 =>
    (rQ g 105 v0 2).bind fun z4 =>
    (aQ g 8 z4 z3).bind fun z5 =>
    (vc g 103 z5 (M_Box_isPainted z5 g)).bind fun z6 =>
    if z6 = 0 then
      k_Layout_nodeAt_67 v0 v1 v2 v3 z3 z5 g
    else
      (vc g 103 z5 (M_Box_holds z5 v1 v2 0 g)).bind fun z7 =>
      if z7 = 0 then
        k_Layout_nodeAt_67 v0 v1 v2 v3 z3 z5 g
      else
        some (.inr (.inl z3))
set_option maxRecDepth 20000 in
theorem y_Layout_nodeAt_21 {L : Nat} {xs : Nat → Int32} {Q : Option Value → ab_H → Prop} {v0 : Nat} {v1 : Int32} {v2 : Int32} {v3 : Int32} {g : g_S} {out : (Int32) ⊕ ((Int32) ⊕ (Int32) ⊕ (Unit))} (e : b_Layout_nodeAt_21 v0 v1 v2 v3 g = some out) (c : cL_Layout_nodeAt_21 L xs Q v0 v1 v2 g out) : wp (ab_ext L xs) J_Layout_nodeAt 21 [(0, .ref v0), (1, .int v1), (2, .int v2), (3, .int v3)] [] (hp g) Q := by
  unfold b_Layout_nodeAt_21 at e
  refine wp_p (j := J_Layout_nodeAt) 1 (pc' := 22) (lv' := [(0, .ref v0), (1, .int v1), (2, .int v2), (3, .int v3)]) (st' := [.int v3]) rfl ?_
  refine z_lt e rfl (fun e => ?_) (fun e => ?_)
  · have e := Option.some.inj e; subst e; exact wp_lv (lv' := []) rfl trivial c
  · refine wp_p (j := J_Layout_nodeAt) 1 (pc' := 26) (lv' := [(0, .ref v0), (1, .int v1), (2, .int v2), (3, .int v3)]) (st' := [.ref v0]) rfl ?_
    refine x_gQ e rfl rfl fd_5_0 rfl (fun z1 e => ?_)
    refine x_gQ e rfl rfl fd_10_2 rfl (fun z2 e => ?_)
    refine wp_p (j := J_Layout_nodeAt) 1 (pc' := 33) (lv' := [(0, .ref v0), (1, .int v1), (2, .int v2), (3, .int v3)]) (st' := [.int v3, .ref z2]) rfl ?_
    refine x_aI e rfl rfl (fun z3 e => ?_)
    refine wp_p (j := J_Layout_nodeAt) 2 (pc' := 37) (lv' := [(4, .int z3), (0, .ref v0), (1, .int v1), (2, .int v2), (3, .int v3)]) (st' := [.ref v0]) rfl ?_
    refine x_gQ e rfl rfl fd_5_2 rfl (fun z4 e => ?_)
    refine wp_p (j := J_Layout_nodeAt) 1 (pc' := 42) (lv' := [(4, .int z3), (0, .ref v0), (1, .int v1), (2, .int v2), (3, .int v3)]) (st' := [.int z3, .ref z4]) rfl ?_
    refine x_aQ e rfl rfl rfl (fun z5 e => ?_)
    refine wp_p (j := J_Layout_nodeAt) 2 (pc' := 47) (lv' := [(5, .ref z5), (4, .int z3), (0, .ref v0), (1, .int v1), (2, .int v2), (3, .int v3)]) (st' := [.ref z5]) rfl ?_
    refine x_cv1 (As := []) (rest := []) Value.int e rfl rfl rfl rfl rfl rfl (fun h => d_Box_isPainted h ⟨rfl, rfl⟩) (fun z6 e => ?_)
    refine z_eq e rfl (fun e => ?_) (fun e => ?_)
    · exact wp_lv (lv' := [(0, .ref v0), (1, .int v1), (2, .int v2), (3, .int v3), (4, .int z3), (5, .ref z5)]) rfl ⟨rfl, rfl, rfl, rfl, rfl, rfl, trivial⟩ (x_Layout_nodeAt_67 e c)
    · refine wp_p (j := J_Layout_nodeAt) 4 (pc' := 58) (lv' := [(5, .ref z5), (4, .int z3), (0, .ref v0), (1, .int v1), (2, .int v2), (3, .int v3)]) (st' := [.int 0, .int v2, .int v1, .ref z5]) rfl ?_
      refine x_cv1 (As := [.int v1, .int v2, .int 0]) (rest := []) Value.int e rfl rfl rfl rfl rfl rfl (fun h => d_Box_holds h ⟨rfl, rfl⟩) (fun z7 e => ?_)
      refine z_eq e rfl (fun e => ?_) (fun e => ?_)
      · exact wp_lv (lv' := [(0, .ref v0), (1, .int v1), (2, .int v2), (3, .int v3), (4, .int z3), (5, .ref z5)]) rfl ⟨rfl, rfl, rfl, rfl, rfl, rfl, trivial⟩ (x_Layout_nodeAt_67 e c)
      · have e := Option.some.inj e; subst e; exact wp_lv (lv' := [(4, .int z3)]) rfl ⟨rfl, trivial⟩ c
noncomputable def L_Layout_nodeAt_21 (v0 : Nat) (v1 : Int32) (v2 : Int32) (v3 : Int32) (g : g_S) : Option ((Int32) ⊕ (Int32) ⊕ (Unit)) := it (fun s : Int32 => b_Layout_nodeAt_21 v0 v1 v2 s g) (v3)
theorem l_Layout_nodeAt_21 {L : Nat} {xs : Nat → Int32} {Q : Option Value → ab_H → Prop} {v0 : Nat} {v1 : Int32} {v2 : Int32} {v3 : Int32} {g : g_S} {r : (Int32) ⊕ (Int32) ⊕ (Unit)} (e : L_Layout_nodeAt_21 v0 v1 v2 v3 g = some r) (c : cL_Layout_nodeAt_21 L xs Q v0 v1 v2 g (.inr r)) : wp (ab_ext L xs) J_Layout_nodeAt 21 [(0, .ref v0), (1, .int v1), (2, .int v2), (3, .int v3)] [] (hp g) Q :=
  it_wp (P := fun s : Int32 => wp (ab_ext L xs) J_Layout_nodeAt 21 [(0, .ref v0), (1, .int v1), (2, .int v2), (3, .int s)] [] (hp g) Q) (E := fun r => cL_Layout_nodeAt_21 L xs Q v0 v1 v2 g (.inr r)) (fun s out e c => y_Layout_nodeAt_21 e (by cases out <;> exact c)) e c
theorem L_Layout_nodeAt_21_eq (v0 : Nat) (v1 : Int32) (v2 : Int32) (v3 : Int32) (g : g_S) : L_Layout_nodeAt_21 v0 v1 v2 v3 g = itc (b_Layout_nodeAt_21 v0 v1 v2 v3 g) (fun s => L_Layout_nodeAt_21 v0 v1 v2 s g) := it_eq2 (fun s : Int32 => b_Layout_nodeAt_21 v0 v1 v2 s g) (v3)
noncomputable def M_Layout_nodeAt (v0 : Nat) (v1 : Int32) (v2 : Int32) (g : g_S) : Option Int32 :=
  (vc g 105 v0 (M_Layout_isInPicture v0 v1 v2 g)).bind fun z1 =>
  if z1 = 0 then
    some (-1)
  else
    (rQ g 105 v0 0).bind fun z2 =>
    (rI g 110 z2 3).bind fun z3 =>
    (L_Layout_nodeAt_21 v0 v1 v2 (z3 - 1) g).bind <|
      us (fun z6 =>
      some z6)
      (us (fun z7 =>
      some z7)
      (fun _ =>
      some (-1)))
set_option maxRecDepth 20000 in
theorem d_Layout_nodeAt {L : Nat} {xs : Nat → Int32} {Q : Option Value → ab_H → Prop} {v0 : Nat} {v1 : Int32} {v2 : Int32} {g : g_S} {out : Int32} (e : M_Layout_nodeAt v0 v1 v2 g = some out) (c : Q (some (.int out)) (hp g)) : mw (ab_ext L xs) J_Layout_nodeAt [.ref v0, .int v1, .int v2] (hp g) Q := by
  unfold M_Layout_nodeAt at e
  refine wp_p (j := J_Layout_nodeAt) 3 (pc' := 3) (lv' := [(0, .ref v0), (1, .int v1), (2, .int v2)]) (st' := [.int v2, .int v1, .ref v0]) rfl ?_
  refine x_cv1 (As := [.int v1, .int v2]) (rest := []) Value.int e rfl rfl rfl rfl rfl rfl (fun h => d_Layout_isInPicture h ⟨rfl, rfl⟩) (fun z1 e => ?_)
  refine z_ne e rfl (fun e => ?_) (fun e => ?_)
  · refine wp_p (j := J_Layout_nodeAt) 1 (pc' := 10) (lv' := [(0, .ref v0), (1, .int v1), (2, .int v2)]) (st' := [.int (-1)]) rfl ?_
    have e := Option.some.inj e; subst e; exact wp_iret (ty := .int) rfl rfl rfl c
  · refine wp_p (j := J_Layout_nodeAt) 1 (pc' := 12) (lv' := [(0, .ref v0), (1, .int v1), (2, .int v2)]) (st' := [.ref v0]) rfl ?_
    refine x_gQ e rfl rfl fd_5_0 rfl (fun z2 e => ?_)
    refine x_gI e rfl rfl fd_10_3 rfl (fun z3 e => ?_)
    refine wp_p (j := J_Layout_nodeAt) 3 (pc' := 21) (lv' := [(3, .int (z3 - 1)), (0, .ref v0), (1, .int v1), (2, .int v2)]) (st' := []) rfl ?_
    obtain ⟨s4, h5, e⟩ := bd e
    refine wp_lv (lv' := [(0, .ref v0), (1, .int v1), (2, .int v2), (3, .int (z3 - 1))]) rfl ⟨rfl, rfl, rfl, rfl, trivial⟩ ?_
    refine l_Layout_nodeAt_21 h5 ?_
    rcases s4 with z6 | z7 | _
    · replace e := (us_l e)
      show wp (ab_ext L xs) J_Layout_nodeAt 64 [(4, .int z6)] [] (hp g) Q
      refine wp_p (j := J_Layout_nodeAt) 1 (pc' := 66) (lv' := [(4, .int z6)]) (st' := [.int z6]) rfl ?_
      have e := Option.some.inj e; subst e; exact wp_iret (ty := .int) rfl rfl rfl c
    · replace e := (us_l (us_r e))
      show wp (ab_ext L xs) J_Layout_nodeAt 88 [(4, .int z7)] [] (hp g) Q
      refine wp_p (j := J_Layout_nodeAt) 1 (pc' := 90) (lv' := [(4, .int z7)]) (st' := [.int z7]) rfl ?_
      have e := Option.some.inj e; subst e; exact wp_iret (ty := .int) rfl rfl rfl c
    · replace e := (us_r (us_r e))
      show wp (ab_ext L xs) J_Layout_nodeAt 97 [] [] (hp g) Q
      refine wp_p (j := J_Layout_nodeAt) 1 (pc' := 98) (lv' := []) (st' := [.int (-1)]) rfl ?_
      have e := Option.some.inj e; subst e; exact wp_iret (ty := .int) rfl rfl rfl c
noncomputable def M_H_top (v0 : Nat) (v1 : Int32) (v2 : Int32) (g : g_S) : Option (Int32 × g_S) :=
  (rQ g 111 v0 5).bind fun z1 =>
  (vc g 109 z1 (M_Sheet_refresh z1 g)).bind fun g2 =>
  (rQ g2 111 v0 6).bind fun z3 =>
  (vc g2 105 z3 (M_Layout_refresh z3 g2)).bind fun g4 =>
  (rQ g4 111 v0 6).bind fun z5 =>
  (vc g4 105 z5 (M_Layout_nodeAt z5 v1 v2 g4)).bind fun z6 =>
  some (z6, g4)
set_option maxRecDepth 20000 in
theorem d_H_top {L : Nat} {xs : Nat → Int32} {Q : Option Value → ab_H → Prop} {v0 : Nat} {v1 : Int32} {v2 : Int32} {g : g_S} {out : Int32 × g_S} (e : M_H_top v0 v1 v2 g = some out) (c : Q (some (.int out.1)) (hp out.2)) : mw (ab_ext L xs) J_H_top [.ref v0, .int v1, .int v2] (hp g) Q := by
  unfold M_H_top at e
  refine wp_p (j := J_H_top) 1 (pc' := 1) (lv' := [(0, .ref v0), (1, .int v1), (2, .int v2)]) (st' := [.ref v0]) rfl ?_
  refine x_gQ e rfl rfl fd_11_5 rfl (fun z1 e => ?_)
  refine x_cv0 (As := []) (rest := []) e rfl rfl rfl rfl rfl rfl (fun h => d_Sheet_refresh h ⟨rfl, rfl⟩) (fun g2 e => ?_)
  refine wp_p (j := J_H_top) 1 (pc' := 8) (lv' := [(0, .ref v0), (1, .int v1), (2, .int v2)]) (st' := [.ref v0]) rfl ?_
  refine x_gQ e rfl rfl fd_11_6 rfl (fun z3 e => ?_)
  refine x_cv0 (As := []) (rest := []) e rfl rfl rfl rfl rfl rfl (fun h => d_Layout_refresh h ⟨rfl, rfl⟩) (fun g4 e => ?_)
  refine wp_p (j := J_H_top) 1 (pc' := 15) (lv' := [(0, .ref v0), (1, .int v1), (2, .int v2)]) (st' := [.ref v0]) rfl ?_
  refine x_gQ e rfl rfl fd_11_6 rfl (fun z5 e => ?_)
  refine wp_p (j := J_H_top) 2 (pc' := 20) (lv' := [(0, .ref v0), (1, .int v1), (2, .int v2)]) (st' := [.int v2, .int v1, .ref z5]) rfl ?_
  refine x_cv1 (As := [.int v1, .int v2]) (rest := []) Value.int e rfl rfl rfl rfl rfl rfl (fun h => d_Layout_nodeAt h ⟨rfl, rfl⟩) (fun z6 e => ?_)
  have e := Option.some.inj e; subst e; exact wp_iret (ty := .int) rfl rfl rfl c
def cL_Acts_startEvent_17 (L : Nat) (xs : Nat → Int32) (Q : Option Value → ab_H → Prop) (v0 : Nat) (out : (Int32 × g_S) ⊕ (g_S)) : Prop := match out with
  | .inl s => wp (ab_ext L xs) J_Acts_startEvent 17 [(0, .ref v0), (3, .int s.1)] [] (hp s.2) Q
  | .inr s => wp (ab_ext L xs) J_Acts_startEvent 74 [] [] (hp s) Q
noncomputable def b_Acts_startEvent_17 (v0 : Nat) (v3 : Int32) (g : g_S) : Option ((Int32 × g_S) ⊕ (g_S)) :=
  if v3 = (-1) then
    some (.inr g)
  else
    (rI g 100 v0 16).bind fun z1 =>
    if z1 < 120 then
      (rQ g 100 v0 14).bind fun z2 =>
      (rI g 100 v0 16).bind fun z3 =>
      (rQ g 100 v0 0).bind fun z4 =>
      (vc g 110 z4 (M_Tree_markOf z4 v3 g)).bind fun z5 =>
      (sL g z2 z3 z5).bind fun g6 =>
      (rI g6 100 v0 16).bind fun z7 =>
      (wI g6 100 v0 16 (z7 + 1)).bind fun g8 =>
      (rQ g8 100 v0 0).bind fun z9 =>
      (rQ g8 110 z9 0).bind fun z10 =>
      (aQ g8 5 z10 v3).bind fun z11 =>
      (rI g8 107 z11 2).bind fun z12 =>
      some (.inl (z12, g8))
    else
      some (.inr g)
set_option maxRecDepth 20000 in
theorem y_Acts_startEvent_17 {L : Nat} {xs : Nat → Int32} {Q : Option Value → ab_H → Prop} {v0 : Nat} {v3 : Int32} {g : g_S} {out : (Int32 × g_S) ⊕ (g_S)} (e : b_Acts_startEvent_17 v0 v3 g = some out) (c : cL_Acts_startEvent_17 L xs Q v0 out) : wp (ab_ext L xs) J_Acts_startEvent 17 [(0, .ref v0), (3, .int v3)] [] (hp g) Q := by
  unfold b_Acts_startEvent_17 at e
  refine wp_p (j := J_Acts_startEvent) 2 (pc' := 19) (lv' := [(0, .ref v0), (3, .int v3)]) (st' := [.int (-1), .int v3]) rfl ?_
  refine x_eq e rfl (fun e => ?_) (fun e => ?_)
  · have e := Option.some.inj e; subst e; exact wp_lv (lv' := []) rfl trivial c
  · refine wp_p (j := J_Acts_startEvent) 1 (pc' := 23) (lv' := [(0, .ref v0), (3, .int v3)]) (st' := [.ref v0]) rfl ?_
    refine x_gI e rfl rfl fd_0_16 rfl (fun z1 e => ?_)
    refine wp_p (j := J_Acts_startEvent) 1 (pc' := 28) (lv' := [(0, .ref v0), (3, .int v3)]) (st' := [.int 120, .int z1]) rfl ?_
    refine x_ge e rfl (fun e => ?_) (fun e => ?_)
    · refine wp_p (j := J_Acts_startEvent) 1 (pc' := 32) (lv' := [(0, .ref v0), (3, .int v3)]) (st' := [.ref v0]) rfl ?_
      refine x_gQ e rfl rfl fd_0_14 rfl (fun z2 e => ?_)
      refine wp_p (j := J_Acts_startEvent) 1 (pc' := 36) (lv' := [(0, .ref v0), (3, .int v3)]) (st' := [.ref v0, .ref z2]) rfl ?_
      refine x_gI e rfl rfl fd_0_16 rfl (fun z3 e => ?_)
      refine wp_p (j := J_Acts_startEvent) 1 (pc' := 40) (lv' := [(0, .ref v0), (3, .int v3)]) (st' := [.ref v0, .int z3, .ref z2]) rfl ?_
      refine x_gQ e rfl rfl fd_0_0 rfl (fun z4 e => ?_)
      refine wp_p (j := J_Acts_startEvent) 1 (pc' := 44) (lv' := [(0, .ref v0), (3, .int v3)]) (st' := [.int v3, .ref z4, .int z3, .ref z2]) rfl ?_
      refine x_cv1 (As := [.int v3]) (rest := [.int z3, .ref z2]) Value.long e rfl rfl rfl rfl rfl rfl (fun h => d_Tree_markOf h ⟨rfl, rfl⟩) (fun z5 e => ?_)
      refine x_sL e rfl rfl (fun g6 e => ?_)
      refine wp_p (j := J_Acts_startEvent) 2 (pc' := 50) (lv' := [(0, .ref v0), (3, .int v3)]) (st' := [.ref v0, .ref v0]) rfl ?_
      refine x_gI e rfl rfl fd_0_16 rfl (fun z7 e => ?_)
      refine wp_p (j := J_Acts_startEvent) 2 (pc' := 55) (lv' := [(0, .ref v0), (3, .int v3)]) (st' := [.int (z7 + 1), .ref v0]) rfl ?_
      refine x_pI e rfl rfl fw_0_16 rfl (fun g8 e => ?_)
      refine wp_p (j := J_Acts_startEvent) 1 (pc' := 59) (lv' := [(0, .ref v0), (3, .int v3)]) (st' := [.ref v0]) rfl ?_
      refine x_gQ e rfl rfl fd_0_0 rfl (fun z9 e => ?_)
      refine x_gQ e rfl rfl fd_10_0 rfl (fun z10 e => ?_)
      refine wp_p (j := J_Acts_startEvent) 1 (pc' := 66) (lv' := [(0, .ref v0), (3, .int v3)]) (st' := [.int v3, .ref z10]) rfl ?_
      refine x_aQ e rfl rfl rfl (fun z11 e => ?_)
      refine x_gI e rfl rfl fd_7_2 rfl (fun z12 e => ?_)
      refine wp_p (j := J_Acts_startEvent) 2 (pc' := 17) (lv' := [(3, .int z12), (0, .ref v0)]) (st' := []) rfl ?_
      have e := Option.some.inj e; subst e; exact wp_lv (lv' := [(0, .ref v0), (3, .int z12)]) rfl ⟨rfl, rfl, trivial⟩ c
    · have e := Option.some.inj e; subst e; exact wp_lv (lv' := []) rfl trivial c
noncomputable def L_Acts_startEvent_17 (v0 : Nat) (v3 : Int32) (g : g_S) : Option (g_S) := it (fun s : Int32 × g_S => b_Acts_startEvent_17 v0 s.1 s.2) (v3, g)
theorem l_Acts_startEvent_17 {L : Nat} {xs : Nat → Int32} {Q : Option Value → ab_H → Prop} {v0 : Nat} {v3 : Int32} {g : g_S} {r : g_S} (e : L_Acts_startEvent_17 v0 v3 g = some r) (c : cL_Acts_startEvent_17 L xs Q v0 (.inr r)) : wp (ab_ext L xs) J_Acts_startEvent 17 [(0, .ref v0), (3, .int v3)] [] (hp g) Q :=
  it_wp (P := fun s : Int32 × g_S => wp (ab_ext L xs) J_Acts_startEvent 17 [(0, .ref v0), (3, .int s.1)] [] (hp s.2) Q) (E := fun r => cL_Acts_startEvent_17 L xs Q v0 (.inr r)) (fun s out e c => y_Acts_startEvent_17 e (by cases out <;> exact c)) e c
theorem L_Acts_startEvent_17_eq (v0 : Nat) (v3 : Int32) (g : g_S) : L_Acts_startEvent_17 v0 v3 g = itc (b_Acts_startEvent_17 v0 v3 g) (fun s => L_Acts_startEvent_17 v0 s.1 s.2) := it_eq2 (fun s : Int32 × g_S => b_Acts_startEvent_17 v0 s.1 s.2) (v3, g)
noncomputable def M_Acts_startEvent (v0 : Nat) (v1 : Int32) (v2 : Int32) (g : g_S) : Option g_S :=
  (wI g 100 v0 18 v2).bind fun g1 =>
  (wI g1 100 v0 15 0).bind fun g2 =>
  (wI g2 100 v0 16 0).bind fun g3 =>
  (L_Acts_startEvent_17 v0 v1 g3).bind <| fun g6 =>
  some g6
set_option maxRecDepth 20000 in
theorem d_Acts_startEvent {L : Nat} {xs : Nat → Int32} {Q : Option Value → ab_H → Prop} {v0 : Nat} {v1 : Int32} {v2 : Int32} {g : g_S} {out : g_S} (e : M_Acts_startEvent v0 v1 v2 g = some out) (c : Q none (hp out)) : mw (ab_ext L xs) J_Acts_startEvent [.ref v0, .int v1, .int v2] (hp g) Q := by
  unfold M_Acts_startEvent at e
  refine wp_p (j := J_Acts_startEvent) 2 (pc' := 2) (lv' := [(0, .ref v0), (1, .int v1), (2, .int v2)]) (st' := [.int v2, .ref v0]) rfl ?_
  refine x_pI e rfl rfl fw_0_18 rfl (fun g1 e => ?_)
  refine wp_p (j := J_Acts_startEvent) 2 (pc' := 7) (lv' := [(0, .ref v0), (1, .int v1), (2, .int v2)]) (st' := [.int 0, .ref v0]) rfl ?_
  refine x_pI e rfl rfl fw_0_15 rfl (fun g2 e => ?_)
  refine wp_p (j := J_Acts_startEvent) 2 (pc' := 12) (lv' := [(0, .ref v0), (1, .int v1), (2, .int v2)]) (st' := [.int 0, .ref v0]) rfl ?_
  refine x_pI e rfl rfl fw_0_16 rfl (fun g3 e => ?_)
  refine wp_p (j := J_Acts_startEvent) 2 (pc' := 17) (lv' := [(3, .int v1), (0, .ref v0), (1, .int v1), (2, .int v2)]) (st' := []) rfl ?_
  obtain ⟨g6, h5, e⟩ := bd e
  refine wp_lv (lv' := [(0, .ref v0), (3, .int v1)]) rfl ⟨rfl, rfl, trivial⟩ ?_
  refine l_Acts_startEvent_17 h5 ?_
  show wp (ab_ext L xs) J_Acts_startEvent 74 [] [] (hp g6) Q
  have e := Option.some.inj e; subst e; exact wp_vret rfl rfl c
noncomputable def M_H_press (v0 : Nat) (v1 : Int32) (v2 : Int32) (g : g_S) : Option (Int32 × g_S) :=
  (rQ g 111 v0 5).bind fun z1 =>
  (vc g 109 z1 (M_Sheet_refresh z1 g)).bind fun g2 =>
  (rQ g2 111 v0 6).bind fun z3 =>
  (vc g2 105 z3 (M_Layout_refresh z3 g2)).bind fun g4 =>
  (rQ g4 111 v0 6).bind fun z5 =>
  (vc g4 105 z5 (M_Layout_nodeAt z5 v1 v2 g4)).bind fun z6 =>
  if z6 = (-1) then
    some (z6, g4)
  else
    (rQ g4 111 v0 7).bind fun z7 =>
    (vc g4 100 z7 (M_Acts_begin z7 g4)).bind fun g8 =>
    (rQ g8 111 v0 7).bind fun z9 =>
    (vc g8 100 z9 (M_Acts_startEvent z9 z6 (-1) g8)).bind fun g10 =>
    (rQ g10 111 v0 7).bind fun z11 =>
    (vc g10 100 z11 (M_Acts_settle z11 g10)).bind fun g12 =>
    some (z6, g12)
set_option maxRecDepth 20000 in
theorem d_H_press {L : Nat} {xs : Nat → Int32} {Q : Option Value → ab_H → Prop} {v0 : Nat} {v1 : Int32} {v2 : Int32} {g : g_S} {out : Int32 × g_S} (e : M_H_press v0 v1 v2 g = some out) (c : Q (some (.int out.1)) (hp out.2)) : mw (ab_ext L xs) J_H_press [.ref v0, .int v1, .int v2] (hp g) Q := by
  unfold M_H_press at e
  refine wp_p (j := J_H_press) 1 (pc' := 1) (lv' := [(0, .ref v0), (1, .int v1), (2, .int v2)]) (st' := [.ref v0]) rfl ?_
  refine x_gQ e rfl rfl fd_11_5 rfl (fun z1 e => ?_)
  refine x_cv0 (As := []) (rest := []) e rfl rfl rfl rfl rfl rfl (fun h => d_Sheet_refresh h ⟨rfl, rfl⟩) (fun g2 e => ?_)
  refine wp_p (j := J_H_press) 1 (pc' := 8) (lv' := [(0, .ref v0), (1, .int v1), (2, .int v2)]) (st' := [.ref v0]) rfl ?_
  refine x_gQ e rfl rfl fd_11_6 rfl (fun z3 e => ?_)
  refine x_cv0 (As := []) (rest := []) e rfl rfl rfl rfl rfl rfl (fun h => d_Layout_refresh h ⟨rfl, rfl⟩) (fun g4 e => ?_)
  refine wp_p (j := J_H_press) 1 (pc' := 15) (lv' := [(0, .ref v0), (1, .int v1), (2, .int v2)]) (st' := [.ref v0]) rfl ?_
  refine x_gQ e rfl rfl fd_11_6 rfl (fun z5 e => ?_)
  refine wp_p (j := J_H_press) 2 (pc' := 20) (lv' := [(0, .ref v0), (1, .int v1), (2, .int v2)]) (st' := [.int v2, .int v1, .ref z5]) rfl ?_
  refine x_cv1 (As := [.int v1, .int v2]) (rest := []) Value.int e rfl rfl rfl rfl rfl rfl (fun h => d_Layout_nodeAt h ⟨rfl, rfl⟩) (fun z6 e => ?_)
  refine wp_p (j := J_H_press) 3 (pc' := 26) (lv' := [(3, .int z6), (0, .ref v0), (1, .int v1), (2, .int v2)]) (st' := [.int (-1), .int z6]) rfl ?_
  refine x_eq e rfl (fun e => ?_) (fun e => ?_)
  · refine wp_p (j := J_H_press) 1 (pc' := 53) (lv' := [(3, .int z6), (0, .ref v0), (1, .int v1), (2, .int v2)]) (st' := [.int z6]) rfl ?_
    have e := Option.some.inj e; subst e; exact wp_iret (ty := .int) rfl rfl rfl c
  · refine wp_p (j := J_H_press) 1 (pc' := 30) (lv' := [(3, .int z6), (0, .ref v0), (1, .int v1), (2, .int v2)]) (st' := [.ref v0]) rfl ?_
    refine x_gQ e rfl rfl fd_11_7 rfl (fun z7 e => ?_)
    refine x_cv0 (As := []) (rest := []) e rfl rfl rfl rfl rfl rfl (fun h => d_Acts_begin h ⟨rfl, rfl⟩) (fun g8 e => ?_)
    refine wp_p (j := J_H_press) 1 (pc' := 37) (lv' := [(3, .int z6), (0, .ref v0), (1, .int v1), (2, .int v2)]) (st' := [.ref v0]) rfl ?_
    refine x_gQ e rfl rfl fd_11_7 rfl (fun z9 e => ?_)
    refine wp_p (j := J_H_press) 2 (pc' := 42) (lv' := [(3, .int z6), (0, .ref v0), (1, .int v1), (2, .int v2)]) (st' := [.int (-1), .int z6, .ref z9]) rfl ?_
    refine x_cv0 (As := [.int z6, .int (-1)]) (rest := []) e rfl rfl rfl rfl rfl rfl (fun h => d_Acts_startEvent h ⟨rfl, rfl⟩) (fun g10 e => ?_)
    refine wp_p (j := J_H_press) 1 (pc' := 46) (lv' := [(3, .int z6), (0, .ref v0), (1, .int v1), (2, .int v2)]) (st' := [.ref v0]) rfl ?_
    refine x_gQ e rfl rfl fd_11_7 rfl (fun z11 e => ?_)
    refine x_cv0 (As := []) (rest := []) e rfl rfl rfl rfl rfl rfl (fun h => d_Acts_settle h ⟨rfl, rfl⟩) (fun g12 e => ?_)
    refine wp_p (j := J_H_press) 1 (pc' := 53) (lv' := [(3, .int z6), (0, .ref v0), (1, .int v1), (2, .int v2)]) (st' := [.int z6]) rfl ?_
    have e := Option.some.inj e; subst e; exact wp_iret (ty := .int) rfl rfl rfl c
noncomputable def k_H_key_46 (v0 : Nat) (v1 : Int32) (v2 : Int32) (g : g_S) : Option (Int32 × g_S) :=
  (rQ g 111 v0 7).bind fun z1 =>
  (vc g 100 z1 (M_Acts_begin z1 g)).bind fun g2 =>
  (rQ g2 111 v0 7).bind fun z3 =>
  (vc g2 100 z3 (M_Acts_startEvent z3 v2 v1 g2)).bind fun g4 =>
  (rQ g4 111 v0 7).bind fun z5 =>
  (vc g4 100 z5 (M_Acts_settle z5 g4)).bind fun g6 =>
  some (v2, g6)
set_option maxRecDepth 20000 in
theorem x_H_key_46 {L : Nat} {xs : Nat → Int32} {Q : Option Value → ab_H → Prop} {v0 : Nat} {v1 : Int32} {v2 : Int32} {g : g_S} {out : Int32 × g_S} (e : k_H_key_46 v0 v1 v2 g = some out) (c : Q (some (.int out.1)) (hp out.2)) : wp (ab_ext L xs) J_H_key 46 [(0, .ref v0), (1, .int v1), (2, .int v2)] [] (hp g) Q := by
  unfold k_H_key_46 at e
  refine wp_p (j := J_H_key) 1 (pc' := 47) (lv' := [(0, .ref v0), (1, .int v1), (2, .int v2)]) (st' := [.ref v0]) rfl ?_
  refine x_gQ e rfl rfl fd_11_7 rfl (fun z1 e => ?_)
  refine x_cv0 (As := []) (rest := []) e rfl rfl rfl rfl rfl rfl (fun h => d_Acts_begin h ⟨rfl, rfl⟩) (fun g2 e => ?_)
  refine wp_p (j := J_H_key) 1 (pc' := 54) (lv' := [(0, .ref v0), (1, .int v1), (2, .int v2)]) (st' := [.ref v0]) rfl ?_
  refine x_gQ e rfl rfl fd_11_7 rfl (fun z3 e => ?_)
  refine wp_p (j := J_H_key) 2 (pc' := 59) (lv' := [(0, .ref v0), (1, .int v1), (2, .int v2)]) (st' := [.int v1, .int v2, .ref z3]) rfl ?_
  refine x_cv0 (As := [.int v2, .int v1]) (rest := []) e rfl rfl rfl rfl rfl rfl (fun h => d_Acts_startEvent h ⟨rfl, rfl⟩) (fun g4 e => ?_)
  refine wp_p (j := J_H_key) 1 (pc' := 63) (lv' := [(0, .ref v0), (1, .int v1), (2, .int v2)]) (st' := [.ref v0]) rfl ?_
  refine x_gQ e rfl rfl fd_11_7 rfl (fun z5 e => ?_)
  refine x_cv0 (As := []) (rest := []) e rfl rfl rfl rfl rfl rfl (fun h => d_Acts_settle h ⟨rfl, rfl⟩) (fun g6 e => ?_)
  refine wp_p (j := J_H_key) 1 (pc' := 70) (lv' := [(0, .ref v0), (1, .int v1), (2, .int v2)]) (st' := [.int v2]) rfl ?_
  have e := Option.some.inj e; subst e; exact wp_iret (ty := .int) rfl rfl rfl c
noncomputable def M_H_key (v0 : Nat) (v1 : Int32) (g : g_S) : Option (Int32 × g_S) :=
  (rQ g 111 v0 2).bind fun z1 =>
  (rQ g 111 v0 7).bind fun z2 =>
  (rL g 100 z2 6).bind fun z3 =>
  (vc g 110 z1 (M_Tree_alive z1 z3 g)).bind fun z4 =>
  if z4 = (-1) then
    some ((-1), g)
  else
    if v1 = 8 then
      k_H_key_46 v0 v1 z4 g
    else
      if v1 = 10 then
        k_H_key_46 v0 v1 z4 g
      else
        if v1 < 32 then
          some ((-1), g)
        else
          if 126 < v1 then
            some ((-1), g)
          else
            k_H_key_46 v0 v1 z4 g
set_option maxRecDepth 20000 in
theorem d_H_key {L : Nat} {xs : Nat → Int32} {Q : Option Value → ab_H → Prop} {v0 : Nat} {v1 : Int32} {g : g_S} {out : Int32 × g_S} (e : M_H_key v0 v1 g = some out) (c : Q (some (.int out.1)) (hp out.2)) : mw (ab_ext L xs) J_H_key [.ref v0, .int v1] (hp g) Q := by
  unfold M_H_key at e
  refine wp_p (j := J_H_key) 1 (pc' := 1) (lv' := [(0, .ref v0), (1, .int v1)]) (st' := [.ref v0]) rfl ?_
  refine x_gQ e rfl rfl fd_11_2 rfl (fun z1 e => ?_)
  refine wp_p (j := J_H_key) 1 (pc' := 5) (lv' := [(0, .ref v0), (1, .int v1)]) (st' := [.ref v0, .ref z1]) rfl ?_
  refine x_gQ e rfl rfl fd_11_7 rfl (fun z2 e => ?_)
  refine x_gL e rfl rfl fd_0_6 rfl (fun z3 e => ?_)
  refine x_cv1 (As := [.long z3]) (rest := []) Value.int e rfl rfl rfl rfl rfl rfl (fun h => d_Tree_alive h ⟨rfl, rfl⟩) (fun z4 e => ?_)
  refine wp_p (j := J_H_key) 3 (pc' := 17) (lv' := [(2, .int z4), (0, .ref v0), (1, .int v1)]) (st' := [.int (-1), .int z4]) rfl ?_
  refine x_eq e rfl (fun e => ?_) (fun e => ?_)
  · refine wp_p (j := J_H_key) 1 (pc' := 45) (lv' := [(2, .int z4), (0, .ref v0), (1, .int v1)]) (st' := [.int (-1)]) rfl ?_
    have e := Option.some.inj e; subst e; exact wp_iret (ty := .int) rfl rfl rfl c
  · refine wp_p (j := J_H_key) 2 (pc' := 23) (lv' := [(2, .int z4), (0, .ref v0), (1, .int v1)]) (st' := [.int 8, .int v1]) rfl ?_
    refine x_eq e rfl (fun e => ?_) (fun e => ?_)
    · exact wp_lv (lv' := [(0, .ref v0), (1, .int v1), (2, .int z4)]) rfl ⟨rfl, rfl, rfl, trivial⟩ (x_H_key_46 e c)
    · refine wp_p (j := J_H_key) 2 (pc' := 29) (lv' := [(2, .int z4), (0, .ref v0), (1, .int v1)]) (st' := [.int 10, .int v1]) rfl ?_
      refine x_eq e rfl (fun e => ?_) (fun e => ?_)
      · exact wp_lv (lv' := [(0, .ref v0), (1, .int v1), (2, .int z4)]) rfl ⟨rfl, rfl, rfl, trivial⟩ (x_H_key_46 e c)
      · refine wp_p (j := J_H_key) 2 (pc' := 35) (lv' := [(2, .int z4), (0, .ref v0), (1, .int v1)]) (st' := [.int 32, .int v1]) rfl ?_
        refine x_lt e rfl (fun e => ?_) (fun e => ?_)
        · refine wp_p (j := J_H_key) 1 (pc' := 45) (lv' := [(2, .int z4), (0, .ref v0), (1, .int v1)]) (st' := [.int (-1)]) rfl ?_
          have e := Option.some.inj e; subst e; exact wp_iret (ty := .int) rfl rfl rfl c
        · refine wp_p (j := J_H_key) 2 (pc' := 41) (lv' := [(2, .int z4), (0, .ref v0), (1, .int v1)]) (st' := [.int 126, .int v1]) rfl ?_
          refine x_le e rfl (fun e => ?_) (fun e => ?_)
          · refine wp_p (j := J_H_key) 1 (pc' := 45) (lv' := [(2, .int z4), (0, .ref v0), (1, .int v1)]) (st' := [.int (-1)]) rfl ?_
            have e := Option.some.inj e; subst e; exact wp_iret (ty := .int) rfl rfl rfl c
          · exact wp_lv (lv' := [(0, .ref v0), (1, .int v1), (2, .int z4)]) rfl ⟨rfl, rfl, rfl, trivial⟩ (x_H_key_46 e c)
noncomputable def k_H_script_60 (v0 : Nat) (v1 : Int32) (g : g_S) : Option (Int32 × g_S) :=
  (rQ g 111 v0 0).bind fun z1 =>
  (vc g 104 z1 (M_Bytes_clear z1 g)).bind fun g2 =>
  some (v1, g2)
set_option maxRecDepth 20000 in
theorem x_H_script_60 {L : Nat} {xs : Nat → Int32} {Q : Option Value → ab_H → Prop} {v0 : Nat} {v1 : Int32} {g : g_S} {out : Int32 × g_S} (e : k_H_script_60 v0 v1 g = some out) (c : Q (some (.int out.1)) (hp out.2)) : wp (ab_ext L xs) J_H_script 60 [(0, .ref v0), (1, .int v1)] [] (hp g) Q := by
  unfold k_H_script_60 at e
  refine wp_p (j := J_H_script) 1 (pc' := 61) (lv' := [(0, .ref v0), (1, .int v1)]) (st' := [.ref v0]) rfl ?_
  refine x_gQ e rfl rfl fd_11_0 rfl (fun z1 e => ?_)
  refine x_cv0 (As := []) (rest := []) e rfl rfl rfl rfl rfl rfl (fun h => d_Bytes_clear h ⟨rfl, rfl⟩) (fun g2 e => ?_)
  refine wp_p (j := J_H_script) 1 (pc' := 68) (lv' := [(0, .ref v0), (1, .int v1)]) (st' := [.int v1]) rfl ?_
  have e := Option.some.inj e; subst e; exact wp_iret (ty := .int) rfl rfl rfl c
noncomputable def M_H_script (v0 : Nat) (g : g_S) : Option (Int32 × g_S) :=
  (vc g 111 v0 (M_H_wrongByte v0 g)).bind fun z1 =>
  if z1 = 0 then
    (rQ g 111 v0 7).bind fun z2 =>
    (rI g 100 z2 7).bind fun z3 =>
    (rQ g 111 v0 7).bind fun z4 =>
    (vc g 100 z4 (M_Acts_begin z4 g)).bind fun g5 =>
    (rQ g5 111 v0 7).bind fun z6 =>
    (rQ g5 111 v0 0).bind fun z7 =>
    (rQ g5 111 v0 2).bind fun z8 =>
    (vc g5 110 z8 (M_Tree_markOf z8 0 g5)).bind fun z9 =>
    (vc g5 100 z6 (M_Acts_startScript z6 z7 z9 g5)).bind fun g10 =>
    (rQ g10 111 v0 7).bind fun z11 =>
    (vc g10 100 z11 (M_Acts_settle z11 g10)).bind fun g12 =>
    (rQ g12 111 v0 7).bind fun z13 =>
    (rI g12 100 z13 7).bind fun z14 =>
    k_H_script_60 v0 (z14 - z3) g12
  else
    k_H_script_60 v0 z1 g
set_option maxRecDepth 20000 in
theorem d_H_script {L : Nat} {xs : Nat → Int32} {Q : Option Value → ab_H → Prop} {v0 : Nat} {g : g_S} {out : Int32 × g_S} (e : M_H_script v0 g = some out) (c : Q (some (.int out.1)) (hp out.2)) : mw (ab_ext L xs) J_H_script [.ref v0] (hp g) Q := by
  unfold M_H_script at e
  refine wp_p (j := J_H_script) 1 (pc' := 1) (lv' := [(0, .ref v0)]) (st' := [.ref v0]) rfl ?_
  refine x_cv1 (As := []) (rest := []) Value.int e rfl rfl rfl rfl rfl rfl (fun h => d_H_wrongByte h ⟨rfl, rfl⟩) (fun z1 e => ?_)
  refine wp_p (j := J_H_script) 2 (pc' := 6) (lv' := [(1, .int z1), (0, .ref v0)]) (st' := [.int z1]) rfl ?_
  refine z_ne e rfl (fun e => ?_) (fun e => ?_)
  · refine wp_p (j := J_H_script) 1 (pc' := 10) (lv' := [(1, .int z1), (0, .ref v0)]) (st' := [.ref v0]) rfl ?_
    refine x_gQ e rfl rfl fd_11_7 rfl (fun z2 e => ?_)
    refine x_gI e rfl rfl fd_0_7 rfl (fun z3 e => ?_)
    refine wp_p (j := J_H_script) 2 (pc' := 18) (lv' := [(2, .int z3), (1, .int z1), (0, .ref v0)]) (st' := [.ref v0]) rfl ?_
    refine x_gQ e rfl rfl fd_11_7 rfl (fun z4 e => ?_)
    refine x_cv0 (As := []) (rest := []) e rfl rfl rfl rfl rfl rfl (fun h => d_Acts_begin h ⟨rfl, rfl⟩) (fun g5 e => ?_)
    refine wp_p (j := J_H_script) 1 (pc' := 25) (lv' := [(2, .int z3), (1, .int z1), (0, .ref v0)]) (st' := [.ref v0]) rfl ?_
    refine x_gQ e rfl rfl fd_11_7 rfl (fun z6 e => ?_)
    refine wp_p (j := J_H_script) 1 (pc' := 29) (lv' := [(2, .int z3), (1, .int z1), (0, .ref v0)]) (st' := [.ref v0, .ref z6]) rfl ?_
    refine x_gQ e rfl rfl fd_11_0 rfl (fun z7 e => ?_)
    refine wp_p (j := J_H_script) 1 (pc' := 33) (lv' := [(2, .int z3), (1, .int z1), (0, .ref v0)]) (st' := [.ref v0, .ref z7, .ref z6]) rfl ?_
    refine x_gQ e rfl rfl fd_11_2 rfl (fun z8 e => ?_)
    refine wp_p (j := J_H_script) 1 (pc' := 37) (lv' := [(2, .int z3), (1, .int z1), (0, .ref v0)]) (st' := [.int 0, .ref z8, .ref z7, .ref z6]) rfl ?_
    refine x_cv1 (As := [.int 0]) (rest := [.ref z7, .ref z6]) Value.long e rfl rfl rfl rfl rfl rfl (fun h => d_Tree_markOf h ⟨rfl, rfl⟩) (fun z9 e => ?_)
    refine x_cv0 (As := [.ref z7, .long z9]) (rest := []) e rfl rfl rfl rfl rfl rfl (fun h => d_Acts_startScript h ⟨rfl, rfl⟩) (fun g10 e => ?_)
    refine wp_p (j := J_H_script) 1 (pc' := 44) (lv' := [(2, .int z3), (1, .int z1), (0, .ref v0)]) (st' := [.ref v0]) rfl ?_
    refine x_gQ e rfl rfl fd_11_7 rfl (fun z11 e => ?_)
    refine x_cv0 (As := []) (rest := []) e rfl rfl rfl rfl rfl rfl (fun h => d_Acts_settle h ⟨rfl, rfl⟩) (fun g12 e => ?_)
    refine wp_p (j := J_H_script) 1 (pc' := 51) (lv' := [(2, .int z3), (1, .int z1), (0, .ref v0)]) (st' := [.ref v0]) rfl ?_
    refine x_gQ e rfl rfl fd_11_7 rfl (fun z13 e => ?_)
    refine x_gI e rfl rfl fd_0_7 rfl (fun z14 e => ?_)
    refine wp_p (j := J_H_script) 3 (pc' := 60) (lv' := [(1, .int (z14 - z3)), (2, .int z3), (0, .ref v0)]) (st' := []) rfl ?_
    exact wp_lv (lv' := [(0, .ref v0), (1, .int (z14 - z3))]) rfl ⟨rfl, rfl, trivial⟩ (x_H_script_60 e c)
  · exact wp_lv (lv' := [(0, .ref v0), (1, .int z1)]) rfl ⟨rfl, rfl, trivial⟩ (x_H_script_60 e c)
