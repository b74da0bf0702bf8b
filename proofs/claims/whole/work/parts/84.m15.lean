/-! methods as functions, group 15 -/
def cL_Y_paintButton_91 (L : Nat) (xs : Nat → Int32) (Q : Option Value → ab_H → Prop) (v0 : Nat) (v1 : Int32) (v2 : Int32) (v3 : Int32) (v5 : Int32) (v6 : Int32) (v9 : Int32) (v10 : Int32) (out : (Int32 × Int32 × Int32 × Int32 × g_S) ⊕ ((g_S) ⊕ (Int32 × Int32 × Int32 × g_S))) : Prop := match out with
  | .inl s => wp (ab_ext L xs) J_Y_paintButton 91 [(0, .ref v0), (1, .int v1), (2, .int v2), (3, .int v3), (4, .int s.1), (5, .int v5), (6, .int v6), (7, .int s.2.1), (8, .int s.2.2.1), (9, .int v9), (10, .int v10), (11, .int s.2.2.2.1)] [] (hp s.2.2.2.2) Q
  | .inr (.inl s) => wp (ab_ext L xs) J_Y_paintButton 175 [] [] (hp s) Q
  | .inr (.inr s) => wp (ab_ext L xs) J_Y_paintButton 210 [(0, .ref v0), (1, .int v1), (2, .int v2), (3, .int v3), (4, .int s.1), (5, .int v5), (6, .int v6), (7, .int s.2.1), (8, .int s.2.2.1), (9, .int v9)] [] (hp s.2.2.2) Q
noncomputable def b_Y_paintButton_91 (v0 : Nat) (v1 : Int32) (v2 : Int32) (v3 : Int32) (v5 : Int32) (v6 : Int32) (v9 : Int32) (v10 : Int32) (v4 : Int32) (v7 : Int32) (v8 : Int32) (v11 : Int32) (g : g_S) : Option ((Int32 × Int32 × Int32 × Int32 × g_S) ⊕ ((g_S) ⊕ (Int32 × Int32 × Int32 × g_S))) :=
  (rQ g 112 v0 62).bind fun z1 =>
  (aI g 0 z1 v9).bind fun z2 =>
  if v11 < z2 then
    (rQ g 112 v0 61).bind fun z3 =>
    (aI g 1 z3 ((400 * v9) + v11)).bind fun z4 =>
    (M_Y_isBlank z4 g).bind fun z5 =>
    if z5 = 0 then
      (M_Y_glyph z4 g).bind fun z6 =>
      if v5 < ((v4 + v7) + (z6 * v10)) then
        some (.inr (.inl g))
      else
        (vc g 112 v0 (M_Y_letter v0 z4 v10 (v4 + v7) v6 v2 v3 v1 g)).bind fun g7 =>
        (M_Y_glyph z4 g7).bind fun z8 =>
        some (.inl ((v4 + v7) + (z8 * v10), 0, 1, v11 + 1, g7))
    else
      if v8 = 0 then
        some (.inl (v4, v7, v8, v11 + 1, g))
      else
        if v7 = 0 then
          some (.inl (v4, 3 * v10, v8, v11 + 1, g))
        else
          some (.inl (v4, v7, v8, v11 + 1, g))
  else
    some (.inr (.inr (v4, v7, v8, g)))
set_option maxRecDepth 20000 in
theorem y_Y_paintButton_91 {L : Nat} {xs : Nat → Int32} {Q : Option Value → ab_H → Prop} {v0 : Nat} {v1 : Int32} {v2 : Int32} {v3 : Int32} {v5 : Int32} {v6 : Int32} {v9 : Int32} {v10 : Int32} {v4 : Int32} {v7 : Int32} {v8 : Int32} {v11 : Int32} {g : g_S} {out : (Int32 × Int32 × Int32 × Int32 × g_S) ⊕ ((g_S) ⊕ (Int32 × Int32 × Int32 × g_S))} (e : b_Y_paintButton_91 v0 v1 v2 v3 v5 v6 v9 v10 v4 v7 v8 v11 g = some out) (c : cL_Y_paintButton_91 L xs Q v0 v1 v2 v3 v5 v6 v9 v10 out) : wp (ab_ext L xs) J_Y_paintButton 91 [(0, .ref v0), (1, .int v1), (2, .int v2), (3, .int v3), (4, .int v4), (5, .int v5), (6, .int v6), (7, .int v7), (8, .int v8), (9, .int v9), (10, .int v10), (11, .int v11)] [] (hp g) Q := by
  unfold b_Y_paintButton_91 at e
  refine wp_p (j := J_Y_paintButton) 2 (pc' := 94) (lv' := [(0, .ref v0), (1, .int v1), (2, .int v2), (3, .int v3), (4, .int v4), (5, .int v5), (6, .int v6), (7, .int v7), (8, .int v8), (9, .int v9), (10, .int v10), (11, .int v11)]) (st' := [.ref v0, .int v11]) rfl ?_
  refine x_gQ e rfl rfl fd_12_62 rfl (fun z1 e => ?_)
  refine wp_p (j := J_Y_paintButton) 1 (pc' := 99) (lv' := [(0, .ref v0), (1, .int v1), (2, .int v2), (3, .int v3), (4, .int v4), (5, .int v5), (6, .int v6), (7, .int v7), (8, .int v8), (9, .int v9), (10, .int v10), (11, .int v11)]) (st' := [.int v9, .ref z1, .int v11]) rfl ?_
  refine x_aI e rfl rfl (fun z2 e => ?_)
  refine x_ge e rfl (fun e => ?_) (fun e => ?_)
  · refine wp_p (j := J_Y_paintButton) 1 (pc' := 104) (lv' := [(0, .ref v0), (1, .int v1), (2, .int v2), (3, .int v3), (4, .int v4), (5, .int v5), (6, .int v6), (7, .int v7), (8, .int v8), (9, .int v9), (10, .int v10), (11, .int v11)]) (st' := [.ref v0]) rfl ?_
    refine x_gQ e rfl rfl fd_12_61 rfl (fun z3 e => ?_)
    refine wp_p (j := J_Y_paintButton) 5 (pc' := 116) (lv' := [(0, .ref v0), (1, .int v1), (2, .int v2), (3, .int v3), (4, .int v4), (5, .int v5), (6, .int v6), (7, .int v7), (8, .int v8), (9, .int v9), (10, .int v10), (11, .int v11)]) (st' := [.int ((400 * v9) + v11), .ref z3]) rfl ?_
    refine x_aB e rfl (.inl rfl) rfl (fun z4 e => ?_)
    refine wp_p (j := J_Y_paintButton) 2 (pc' := 121) (lv' := [(12, .int z4), (0, .ref v0), (1, .int v1), (2, .int v2), (3, .int v3), (4, .int v4), (5, .int v5), (6, .int v6), (7, .int v7), (8, .int v8), (9, .int v9), (10, .int v10), (11, .int v11)]) (st' := [.int z4]) rfl ?_
    refine x_cs1 (As := [.int z4]) (rest := []) Value.int e rfl rfl rfl rfl rfl (fun h => d_Y_isBlank h ⟨rfl, rfl⟩) (fun z5 e => ?_)
    refine z_eq e rfl (fun e => ?_) (fun e => ?_)
    · refine wp_p (j := J_Y_paintButton) 10 (pc' := 163) (lv' := [(8, .int 1), (7, .int 0), (4, .int (v4 + v7)), (12, .int z4), (0, .ref v0), (1, .int v1), (2, .int v2), (3, .int v3), (5, .int v5), (6, .int v6), (9, .int v9), (10, .int v10), (11, .int v11)]) (st' := [.int z4, .int (v4 + v7)]) rfl ?_
      refine x_cs1 (As := [.int z4]) (rest := [.int (v4 + v7)]) Value.int e rfl rfl rfl rfl rfl (fun h => d_Y_glyph h ⟨rfl, rfl⟩) (fun z6 e => ?_)
      refine wp_p (j := J_Y_paintButton) 4 (pc' := 172) (lv' := [(8, .int 1), (7, .int 0), (4, .int (v4 + v7)), (12, .int z4), (0, .ref v0), (1, .int v1), (2, .int v2), (3, .int v3), (5, .int v5), (6, .int v6), (9, .int v9), (10, .int v10), (11, .int v11)]) (st' := [.int v5, .int ((v4 + v7) + (z6 * v10))]) rfl ?_
      refine x_le e rfl (fun e => ?_) (fun e => ?_)
      · have e := Option.some.inj e; subst e; exact wp_lv (lv' := []) rfl trivial c
      · refine wp_p (j := J_Y_paintButton) 8 (pc' := 188) (lv' := [(8, .int 1), (7, .int 0), (4, .int (v4 + v7)), (12, .int z4), (0, .ref v0), (1, .int v1), (2, .int v2), (3, .int v3), (5, .int v5), (6, .int v6), (9, .int v9), (10, .int v10), (11, .int v11)]) (st' := [.int v1, .int v3, .int v2, .int v6, .int (v4 + v7), .int v10, .int z4, .ref v0]) rfl ?_
        refine x_cv0 (As := [.int z4, .int v10, .int (v4 + v7), .int v6, .int v2, .int v3, .int v1]) (rest := []) e rfl rfl rfl rfl rfl rfl (fun h => d_Y_letter h ⟨rfl, rfl⟩) (fun g7 e => ?_)
        refine wp_p (j := J_Y_paintButton) 2 (pc' := 195) (lv' := [(8, .int 1), (7, .int 0), (4, .int (v4 + v7)), (12, .int z4), (0, .ref v0), (1, .int v1), (2, .int v2), (3, .int v3), (5, .int v5), (6, .int v6), (9, .int v9), (10, .int v10), (11, .int v11)]) (st' := [.int z4, .int (v4 + v7)]) rfl ?_
        refine x_cs1 (As := [.int z4]) (rest := [.int (v4 + v7)]) Value.int e rfl rfl rfl rfl rfl (fun h => d_Y_glyph h ⟨rfl, rfl⟩) (fun z8 e => ?_)
        refine wp_p (j := J_Y_paintButton) 6 (pc' := 91) (lv' := [(11, .int (v11 + 1)), (4, .int ((v4 + v7) + (z8 * v10))), (8, .int 1), (7, .int 0), (12, .int z4), (0, .ref v0), (1, .int v1), (2, .int v2), (3, .int v3), (5, .int v5), (6, .int v6), (9, .int v9), (10, .int v10)]) (st' := []) rfl ?_
        have e := Option.some.inj e; subst e; exact wp_lv (lv' := [(0, .ref v0), (1, .int v1), (2, .int v2), (3, .int v3), (4, .int ((v4 + v7) + (z8 * v10))), (5, .int v5), (6, .int v6), (7, .int 0), (8, .int 1), (9, .int v9), (10, .int v10), (11, .int (v11 + 1))]) rfl ⟨rfl, rfl, rfl, rfl, rfl, rfl, rfl, rfl, rfl, rfl, rfl, rfl, trivial⟩ c
    · refine wp_p (j := J_Y_paintButton) 1 (pc' := 129) (lv' := [(12, .int z4), (0, .ref v0), (1, .int v1), (2, .int v2), (3, .int v3), (4, .int v4), (5, .int v5), (6, .int v6), (7, .int v7), (8, .int v8), (9, .int v9), (10, .int v10), (11, .int v11)]) (st' := [.int v8]) rfl ?_
      refine z_eq e rfl (fun e => ?_) (fun e => ?_)
      · refine wp_p (j := J_Y_paintButton) 2 (pc' := 91) (lv' := [(11, .int (v11 + 1)), (12, .int z4), (0, .ref v0), (1, .int v1), (2, .int v2), (3, .int v3), (4, .int v4), (5, .int v5), (6, .int v6), (7, .int v7), (8, .int v8), (9, .int v9), (10, .int v10)]) (st' := []) rfl ?_
        have e := Option.some.inj e; subst e; exact wp_lv (lv' := [(0, .ref v0), (1, .int v1), (2, .int v2), (3, .int v3), (4, .int v4), (5, .int v5), (6, .int v6), (7, .int v7), (8, .int v8), (9, .int v9), (10, .int v10), (11, .int (v11 + 1))]) rfl ⟨rfl, rfl, rfl, rfl, rfl, rfl, rfl, rfl, rfl, rfl, rfl, rfl, trivial⟩ c
      · refine wp_p (j := J_Y_paintButton) 1 (pc' := 134) (lv' := [(12, .int z4), (0, .ref v0), (1, .int v1), (2, .int v2), (3, .int v3), (4, .int v4), (5, .int v5), (6, .int v6), (7, .int v7), (8, .int v8), (9, .int v9), (10, .int v10), (11, .int v11)]) (st' := [.int v7]) rfl ?_
        refine z_ne e rfl (fun e => ?_) (fun e => ?_)
        · refine wp_p (j := J_Y_paintButton) 7 (pc' := 91) (lv' := [(11, .int (v11 + 1)), (7, .int (3 * v10)), (12, .int z4), (0, .ref v0), (1, .int v1), (2, .int v2), (3, .int v3), (4, .int v4), (5, .int v5), (6, .int v6), (8, .int v8), (9, .int v9), (10, .int v10)]) (st' := []) rfl ?_
          have e := Option.some.inj e; subst e; exact wp_lv (lv' := [(0, .ref v0), (1, .int v1), (2, .int v2), (3, .int v3), (4, .int v4), (5, .int v5), (6, .int v6), (7, .int (3 * v10)), (8, .int v8), (9, .int v9), (10, .int v10), (11, .int (v11 + 1))]) rfl ⟨rfl, rfl, rfl, rfl, rfl, rfl, rfl, rfl, rfl, rfl, rfl, rfl, trivial⟩ c
        · refine wp_p (j := J_Y_paintButton) 2 (pc' := 91) (lv' := [(11, .int (v11 + 1)), (12, .int z4), (0, .ref v0), (1, .int v1), (2, .int v2), (3, .int v3), (4, .int v4), (5, .int v5), (6, .int v6), (7, .int v7), (8, .int v8), (9, .int v9), (10, .int v10)]) (st' := []) rfl ?_
          have e := Option.some.inj e; subst e; exact wp_lv (lv' := [(0, .ref v0), (1, .int v1), (2, .int v2), (3, .int v3), (4, .int v4), (5, .int v5), (6, .int v6), (7, .int v7), (8, .int v8), (9, .int v9), (10, .int v10), (11, .int (v11 + 1))]) rfl ⟨rfl, rfl, rfl, rfl, rfl, rfl, rfl, rfl, rfl, rfl, rfl, rfl, trivial⟩ c
  · have e := Option.some.inj e; subst e; exact wp_lv (lv' := [(0, .ref v0), (1, .int v1), (2, .int v2), (3, .int v3), (4, .int v4), (5, .int v5), (6, .int v6), (7, .int v7), (8, .int v8), (9, .int v9)]) rfl ⟨rfl, rfl, rfl, rfl, rfl, rfl, rfl, rfl, rfl, rfl, trivial⟩ c
noncomputable def L_Y_paintButton_91 (v0 : Nat) (v1 : Int32) (v2 : Int32) (v3 : Int32) (v5 : Int32) (v6 : Int32) (v9 : Int32) (v10 : Int32) (v4 : Int32) (v7 : Int32) (v8 : Int32) (v11 : Int32) (g : g_S) : Option ((g_S) ⊕ (Int32 × Int32 × Int32 × g_S)) := it (fun s : Int32 × Int32 × Int32 × Int32 × g_S => b_Y_paintButton_91 v0 v1 v2 v3 v5 v6 v9 v10 s.1 s.2.1 s.2.2.1 s.2.2.2.1 s.2.2.2.2) (v4, v7, v8, v11, g)
theorem l_Y_paintButton_91 {L : Nat} {xs : Nat → Int32} {Q : Option Value → ab_H → Prop} {v0 : Nat} {v1 : Int32} {v2 : Int32} {v3 : Int32} {v5 : Int32} {v6 : Int32} {v9 : Int32} {v10 : Int32} {v4 : Int32} {v7 : Int32} {v8 : Int32} {v11 : Int32} {g : g_S} {r : (g_S) ⊕ (Int32 × Int32 × Int32 × g_S)} (e : L_Y_paintButton_91 v0 v1 v2 v3 v5 v6 v9 v10 v4 v7 v8 v11 g = some r) (c : cL_Y_paintButton_91 L xs Q v0 v1 v2 v3 v5 v6 v9 v10 (.inr r)) : wp (ab_ext L xs) J_Y_paintButton 91 [(0, .ref v0), (1, .int v1), (2, .int v2), (3, .int v3), (4, .int v4), (5, .int v5), (6, .int v6), (7, .int v7), (8, .int v8), (9, .int v9), (10, .int v10), (11, .int v11)] [] (hp g) Q :=
  it_wp (P := fun s : Int32 × Int32 × Int32 × Int32 × g_S => wp (ab_ext L xs) J_Y_paintButton 91 [(0, .ref v0), (1, .int v1), (2, .int v2), (3, .int v3), (4, .int s.1), (5, .int v5), (6, .int v6), (7, .int s.2.1), (8, .int s.2.2.1), (9, .int v9), (10, .int v10), (11, .int s.2.2.2.1)] [] (hp s.2.2.2.2) Q) (E := fun r => cL_Y_paintButton_91 L xs Q v0 v1 v2 v3 v5 v6 v9 v10 (.inr r)) (fun s out e c => y_Y_paintButton_91 e (by cases out <;> exact c)) e c
theorem L_Y_paintButton_91_eq (v0 : Nat) (v1 : Int32) (v2 : Int32) (v3 : Int32) (v5 : Int32) (v6 : Int32) (v9 : Int32) (v10 : Int32) (v4 : Int32) (v7 : Int32) (v8 : Int32) (v11 : Int32) (g : g_S) : L_Y_paintButton_91 v0 v1 v2 v3 v5 v6 v9 v10 v4 v7 v8 v11 g = itc (b_Y_paintButton_91 v0 v1 v2 v3 v5 v6 v9 v10 v4 v7 v8 v11 g) (fun s => L_Y_paintButton_91 v0 v1 v2 v3 v5 v6 v9 v10 s.1 s.2.1 s.2.2.1 s.2.2.2.1 s.2.2.2.2) := it_eq2 (fun s : Int32 × Int32 × Int32 × Int32 × g_S => b_Y_paintButton_91 v0 v1 v2 v3 v5 v6 v9 v10 s.1 s.2.1 s.2.2.1 s.2.2.2.1 s.2.2.2.2) (v4, v7, v8, v11, g)
def cL_Y_paintButton_58 (L : Nat) (xs : Nat → Int32) (Q : Option Value → ab_H → Prop) (v0 : Nat) (v1 : Int32) (v2 : Int32) (v3 : Int32) (v5 : Int32) (v6 : Int32) (out : (Int32 × Int32 × Int32 × Int32 × g_S) ⊕ ((g_S) ⊕ (g_S))) : Prop := match out with
  | .inl s => wp (ab_ext L xs) J_Y_paintButton 58 [(0, .ref v0), (1, .int v1), (2, .int v2), (3, .int v3), (4, .int s.1), (5, .int v5), (6, .int v6), (7, .int s.2.1), (8, .int s.2.2.1), (9, .int s.2.2.2.1)] [] (hp s.2.2.2.2) Q
  | .inr (.inl s) => wp (ab_ext L xs) J_Y_paintButton 175 [] [] (hp s) Q
  | .inr (.inr s) => wp (ab_ext L xs) J_Y_paintButton 222 [] [] (hp s) Q
noncomputable def k_Y_paintButton_210 (v0 : Nat) (v1 : Int32) (v2 : Int32) (v3 : Int32) (v4 : Int32) (v5 : Int32) (v6 : Int32) (v7 : Int32) (v8 : Int32) (v9 : Int32) (g : g_S) : Option ((Int32 × Int32 × Int32 × Int32 × g_S) ⊕ ((g_S) ⊕ (g_S))) :=
  (vc g 112 v0 (M_Y_after v0 v9 v1 g)).bind fun z1 =>
  some (.inl (v4, v7, v8, z1, g))
set_option maxRecDepth 20000 in
theorem x_Y_paintButton_210 {L : Nat} {xs : Nat → Int32} {Q : Option Value → ab_H → Prop} {v0 : Nat} {v1 : Int32} {v2 : Int32} {v3 : Int32} {v4 : Int32} {v5 : Int32} {v6 : Int32} {v7 : Int32} {v8 : Int32} {v9 : Int32} {g : g_S} {out : (Int32 × Int32 × Int32 × Int32 × g_S) ⊕ ((g_S) ⊕ (g_S))} (e : k_Y_paintButton_210 v0 v1 v2 v3 v4 v5 v6 v7 v8 v9 g = some out) (c : cL_Y_paintButton_58 L xs Q v0 v1 v2 v3 v5 v6 out) : wp (ab_ext L xs) J_Y_paintButton 210 [(0, .ref v0), (1, .int v1), (2, .int v2), (3, .int v3), (4, .int v4), (5, .int v5), (6, .int v6), (7, .int v7), (8, .int v8), (9, .int v9)] [] (hp g) Q := by
  unfold k_Y_paintButton_210 at e
  refine wp_p (j := J_Y_paintButton) 3 (pc' := 214) (lv' := [(0, .ref v0), (1, .int v1), (2, .int v2), (3, .int v3), (4, .int v4), (5, .int v5), (6, .int v6), (7, .int v7), (8, .int v8), (9, .int v9)]) (st' := [.int v1, .int v9, .ref v0]) rfl ?_
  refine x_cv1 (As := [.int v9, .int v1]) (rest := []) Value.int e rfl rfl rfl rfl rfl rfl (fun h => d_Y_after h ⟨rfl, rfl⟩) (fun z1 e => ?_)
  refine wp_p (j := J_Y_paintButton) 2 (pc' := 58) (lv' := [(9, .int z1), (0, .ref v0), (1, .int v1), (2, .int v2), (3, .int v3), (4, .int v4), (5, .int v5), (6, .int v6), (7, .int v7), (8, .int v8)]) (st' := []) rfl ?_
  have e := Option.some.inj e; subst e; exact wp_lv (lv' := [(0, .ref v0), (1, .int v1), (2, .int v2), (3, .int v3), (4, .int v4), (5, .int v5), (6, .int v6), (7, .int v7), (8, .int v8), (9, .int z1)]) rfl ⟨rfl, rfl, rfl, rfl, rfl, rfl, rfl, rfl, rfl, rfl, trivial⟩ c
noncomputable def b_Y_paintButton_58 (v0 : Nat) (v1 : Int32) (v2 : Int32) (v3 : Int32) (v5 : Int32) (v6 : Int32) (v4 : Int32) (v7 : Int32) (v8 : Int32) (v9 : Int32) (g : g_S) : Option ((Int32 × Int32 × Int32 × Int32 × g_S) ⊕ ((g_S) ⊕ (g_S))) :=
  if v9 = (-1) then
    some (.inr (.inr g))
  else
    (rQ g 112 v0 46).bind fun z1 =>
    (aI g 0 z1 v9).bind fun z2 =>
    if z2 = 17 then
      (vc g 112 v0 (M_Y_of v0 v1 8 g)).bind fun z3 =>
      (L_Y_paintButton_91 v0 v1 v2 v3 v5 v6 v9 z3 v4 v7 v8 0 g).bind <|
        us (fun g6 =>
        some (.inr (.inl g6)))
        (u4 fun z7 z8 z9 g10 =>
        k_Y_paintButton_210 v0 v1 v2 v3 z7 v5 v6 z8 z9 v9 g10)
    else
      k_Y_paintButton_210 v0 v1 v2 v3 v4 v5 v6 v7 v8 v9 g
set_option maxRecDepth 20000 in
theorem y_Y_paintButton_58 {L : Nat} {xs : Nat → Int32} {Q : Option Value → ab_H → Prop} {v0 : Nat} {v1 : Int32} {v2 : Int32} {v3 : Int32} {v5 : Int32} {v6 : Int32} {v4 : Int32} {v7 : Int32} {v8 : Int32} {v9 : Int32} {g : g_S} {out : (Int32 × Int32 × Int32 × Int32 × g_S) ⊕ ((g_S) ⊕ (g_S))} (e : b_Y_paintButton_58 v0 v1 v2 v3 v5 v6 v4 v7 v8 v9 g = some out) (c : cL_Y_paintButton_58 L xs Q v0 v1 v2 v3 v5 v6 out) : wp (ab_ext L xs) J_Y_paintButton 58 [(0, .ref v0), (1, .int v1), (2, .int v2), (3, .int v3), (4, .int v4), (5, .int v5), (6, .int v6), (7, .int v7), (8, .int v8), (9, .int v9)] [] (hp g) Q := by
  unfold b_Y_paintButton_58 at e
  refine wp_p (j := J_Y_paintButton) 2 (pc' := 61) (lv' := [(0, .ref v0), (1, .int v1), (2, .int v2), (3, .int v3), (4, .int v4), (5, .int v5), (6, .int v6), (7, .int v7), (8, .int v8), (9, .int v9)]) (st' := [.int (-1), .int v9]) rfl ?_
  refine x_eq e rfl (fun e => ?_) (fun e => ?_)
  · have e := Option.some.inj e; subst e; exact wp_lv (lv' := []) rfl trivial c
  · refine wp_p (j := J_Y_paintButton) 1 (pc' := 65) (lv' := [(0, .ref v0), (1, .int v1), (2, .int v2), (3, .int v3), (4, .int v4), (5, .int v5), (6, .int v6), (7, .int v7), (8, .int v8), (9, .int v9)]) (st' := [.ref v0]) rfl ?_
    refine x_gQ e rfl rfl fd_12_46 rfl (fun z1 e => ?_)
    refine wp_p (j := J_Y_paintButton) 1 (pc' := 70) (lv' := [(0, .ref v0), (1, .int v1), (2, .int v2), (3, .int v3), (4, .int v4), (5, .int v5), (6, .int v6), (7, .int v7), (8, .int v8), (9, .int v9)]) (st' := [.int v9, .ref z1]) rfl ?_
    refine x_aI e rfl rfl (fun z2 e => ?_)
    refine wp_p (j := J_Y_paintButton) 1 (pc' := 73) (lv' := [(0, .ref v0), (1, .int v1), (2, .int v2), (3, .int v3), (4, .int v4), (5, .int v5), (6, .int v6), (7, .int v7), (8, .int v8), (9, .int v9)]) (st' := [.int 17, .int z2]) rfl ?_
    refine x_eq e rfl (fun e => ?_) (fun e => ?_)
    · refine wp_p (j := J_Y_paintButton) 3 (pc' := 83) (lv' := [(0, .ref v0), (1, .int v1), (2, .int v2), (3, .int v3), (4, .int v4), (5, .int v5), (6, .int v6), (7, .int v7), (8, .int v8), (9, .int v9)]) (st' := [.int 8, .int v1, .ref v0]) rfl ?_
      refine x_cv1 (As := [.int v1, .int 8]) (rest := []) Value.int e rfl rfl rfl rfl rfl rfl (fun h => d_Y_of h ⟨rfl, rfl⟩) (fun z3 e => ?_)
      refine wp_p (j := J_Y_paintButton) 3 (pc' := 91) (lv' := [(11, .int 0), (10, .int z3), (0, .ref v0), (1, .int v1), (2, .int v2), (3, .int v3), (4, .int v4), (5, .int v5), (6, .int v6), (7, .int v7), (8, .int v8), (9, .int v9)]) (st' := []) rfl ?_
      obtain ⟨s4, h5, e⟩ := bd e
      refine wp_lv (lv' := [(0, .ref v0), (1, .int v1), (2, .int v2), (3, .int v3), (4, .int v4), (5, .int v5), (6, .int v6), (7, .int v7), (8, .int v8), (9, .int v9), (10, .int z3), (11, .int 0)]) rfl ⟨rfl, rfl, rfl, rfl, rfl, rfl, rfl, rfl, rfl, rfl, rfl, rfl, trivial⟩ ?_
      refine l_Y_paintButton_91 h5 ?_
      rcases s4 with g6 | ⟨z7, z8, z9, g10⟩
      · replace e := (us_l e)
        show wp (ab_ext L xs) J_Y_paintButton 175 [] [] (hp g6) Q
        have e := Option.some.inj e; subst e; exact wp_lv (lv' := []) rfl trivial c
      · replace e := (u4_e (us_r e))
        show wp (ab_ext L xs) J_Y_paintButton 210 [(0, .ref v0), (1, .int v1), (2, .int v2), (3, .int v3), (4, .int z7), (5, .int v5), (6, .int v6), (7, .int z8), (8, .int z9), (9, .int v9)] [] (hp g10) Q
        exact wp_lv (lv' := [(0, .ref v0), (1, .int v1), (2, .int v2), (3, .int v3), (4, .int z7), (5, .int v5), (6, .int v6), (7, .int z8), (8, .int z9), (9, .int v9)]) rfl ⟨rfl, rfl, rfl, rfl, rfl, rfl, rfl, rfl, rfl, rfl, trivial⟩ (x_Y_paintButton_210 e c)
    · refine wp_p (j := J_Y_paintButton) 1 (pc' := 210) (lv' := [(0, .ref v0), (1, .int v1), (2, .int v2), (3, .int v3), (4, .int v4), (5, .int v5), (6, .int v6), (7, .int v7), (8, .int v8), (9, .int v9)]) (st' := []) rfl ?_
      exact wp_lv (lv' := [(0, .ref v0), (1, .int v1), (2, .int v2), (3, .int v3), (4, .int v4), (5, .int v5), (6, .int v6), (7, .int v7), (8, .int v8), (9, .int v9)]) rfl ⟨rfl, rfl, rfl, rfl, rfl, rfl, rfl, rfl, rfl, rfl, trivial⟩ (x_Y_paintButton_210 e c)
noncomputable def L_Y_paintButton_58 (v0 : Nat) (v1 : Int32) (v2 : Int32) (v3 : Int32) (v5 : Int32) (v6 : Int32) (v4 : Int32) (v7 : Int32) (v8 : Int32) (v9 : Int32) (g : g_S) : Option ((g_S) ⊕ (g_S)) := it (fun s : Int32 × Int32 × Int32 × Int32 × g_S => b_Y_paintButton_58 v0 v1 v2 v3 v5 v6 s.1 s.2.1 s.2.2.1 s.2.2.2.1 s.2.2.2.2) (v4, v7, v8, v9, g)
theorem l_Y_paintButton_58 {L : Nat} {xs : Nat → Int32} {Q : Option Value → ab_H → Prop} {v0 : Nat} {v1 : Int32} {v2 : Int32} {v3 : Int32} {v5 : Int32} {v6 : Int32} {v4 : Int32} {v7 : Int32} {v8 : Int32} {v9 : Int32} {g : g_S} {r : (g_S) ⊕ (g_S)} (e : L_Y_paintButton_58 v0 v1 v2 v3 v5 v6 v4 v7 v8 v9 g = some r) (c : cL_Y_paintButton_58 L xs Q v0 v1 v2 v3 v5 v6 (.inr r)) : wp (ab_ext L xs) J_Y_paintButton 58 [(0, .ref v0), (1, .int v1), (2, .int v2), (3, .int v3), (4, .int v4), (5, .int v5), (6, .int v6), (7, .int v7), (8, .int v8), (9, .int v9)] [] (hp g) Q :=
  it_wp (P := fun s : Int32 × Int32 × Int32 × Int32 × g_S => wp (ab_ext L xs) J_Y_paintButton 58 [(0, .ref v0), (1, .int v1), (2, .int v2), (3, .int v3), (4, .int s.1), (5, .int v5), (6, .int v6), (7, .int s.2.1), (8, .int s.2.2.1), (9, .int s.2.2.2.1)] [] (hp s.2.2.2.2) Q) (E := fun r => cL_Y_paintButton_58 L xs Q v0 v1 v2 v3 v5 v6 (.inr r)) (fun s out e c => y_Y_paintButton_58 e (by cases out <;> exact c)) e c
theorem L_Y_paintButton_58_eq (v0 : Nat) (v1 : Int32) (v2 : Int32) (v3 : Int32) (v5 : Int32) (v6 : Int32) (v4 : Int32) (v7 : Int32) (v8 : Int32) (v9 : Int32) (g : g_S) : L_Y_paintButton_58 v0 v1 v2 v3 v5 v6 v4 v7 v8 v9 g = itc (b_Y_paintButton_58 v0 v1 v2 v3 v5 v6 v4 v7 v8 v9 g) (fun s => L_Y_paintButton_58 v0 v1 v2 v3 v5 v6 s.1 s.2.1 s.2.2.1 s.2.2.2.1 s.2.2.2.2) := it_eq2 (fun s : Int32 × Int32 × Int32 × Int32 × g_S => b_Y_paintButton_58 v0 v1 v2 v3 v5 v6 s.1 s.2.1 s.2.2.1 s.2.2.2.1 s.2.2.2.2) (v4, v7, v8, v9, g)
noncomputable def M_Y_paintButton (v0 : Nat) (v1 : Int32) (v2 : Int32) (v3 : Int32) (g : g_S) : Option g_S :=
  (rQ g 112 v0 110).bind fun z1 =>
  (aI g 0 z1 v1).bind fun z2 =>
  (vc g 112 v0 (M_Y_edges v0 v1 g)).bind fun z3 =>
  (rQ g 112 v0 110).bind fun z4 =>
  (aI g 0 z4 v1).bind fun z5 =>
  (rQ g 112 v0 112).bind fun z6 =>
  (aI g 0 z6 v1).bind fun z7 =>
  (vc g 112 v0 (M_Y_edges v0 v1 g)).bind fun z8 =>
  (rQ g 112 v0 111).bind fun z9 =>
  (aI g 0 z9 v1).bind fun z10 =>
  (vc g 112 v0 (M_Y_edges v0 v1 g)).bind fun z11 =>
  (L_Y_paintButton_58 v0 v1 v2 v3 ((z5 + z7) - z8) (z10 + z11) (z2 + z3) 0 0 v1 g).bind <|
    us (fun g14 =>
    some g14)
    (fun g15 =>
    some g15)
set_option maxRecDepth 20000 in
theorem d_Y_paintButton {L : Nat} {xs : Nat → Int32} {Q : Option Value → ab_H → Prop} {v0 : Nat} {v1 : Int32} {v2 : Int32} {v3 : Int32} {g : g_S} {out : g_S} (e : M_Y_paintButton v0 v1 v2 v3 g = some out) (c : Q none (hp out)) : mw (ab_ext L xs) J_Y_paintButton [.ref v0, .int v1, .int v2, .int v3] (hp g) Q := by
  unfold M_Y_paintButton at e
  refine wp_p (j := J_Y_paintButton) 1 (pc' := 1) (lv' := [(0, .ref v0), (1, .int v1), (2, .int v2), (3, .int v3)]) (st' := [.ref v0]) rfl ?_
  refine x_gQ e rfl rfl fd_12_110 rfl (fun z1 e => ?_)
  refine wp_p (j := J_Y_paintButton) 1 (pc' := 5) (lv' := [(0, .ref v0), (1, .int v1), (2, .int v2), (3, .int v3)]) (st' := [.int v1, .ref z1]) rfl ?_
  refine x_aI e rfl rfl (fun z2 e => ?_)
  refine wp_p (j := J_Y_paintButton) 2 (pc' := 8) (lv' := [(0, .ref v0), (1, .int v1), (2, .int v2), (3, .int v3)]) (st' := [.int v1, .ref v0, .int z2]) rfl ?_
  refine x_cv1 (As := [.int v1]) (rest := [.int z2]) Value.int e rfl rfl rfl rfl rfl rfl (fun h => d_Y_edges h ⟨rfl, rfl⟩) (fun z3 e => ?_)
  refine wp_p (j := J_Y_paintButton) 3 (pc' := 15) (lv' := [(4, .int (z2 + z3)), (0, .ref v0), (1, .int v1), (2, .int v2), (3, .int v3)]) (st' := [.ref v0]) rfl ?_
  refine x_gQ e rfl rfl fd_12_110 rfl (fun z4 e => ?_)
  refine wp_p (j := J_Y_paintButton) 1 (pc' := 19) (lv' := [(4, .int (z2 + z3)), (0, .ref v0), (1, .int v1), (2, .int v2), (3, .int v3)]) (st' := [.int v1, .ref z4]) rfl ?_
  refine x_aI e rfl rfl (fun z5 e => ?_)
  refine wp_p (j := J_Y_paintButton) 1 (pc' := 21) (lv' := [(4, .int (z2 + z3)), (0, .ref v0), (1, .int v1), (2, .int v2), (3, .int v3)]) (st' := [.ref v0, .int z5]) rfl ?_
  refine x_gQ e rfl rfl fd_12_112 rfl (fun z6 e => ?_)
  refine wp_p (j := J_Y_paintButton) 1 (pc' := 25) (lv' := [(4, .int (z2 + z3)), (0, .ref v0), (1, .int v1), (2, .int v2), (3, .int v3)]) (st' := [.int v1, .ref z6, .int z5]) rfl ?_
  refine x_aI e rfl rfl (fun z7 e => ?_)
  refine wp_p (j := J_Y_paintButton) 3 (pc' := 29) (lv' := [(4, .int (z2 + z3)), (0, .ref v0), (1, .int v1), (2, .int v2), (3, .int v3)]) (st' := [.int v1, .ref v0, .int (z5 + z7)]) rfl ?_
  refine x_cv1 (As := [.int v1]) (rest := [.int (z5 + z7)]) Value.int e rfl rfl rfl rfl rfl rfl (fun h => d_Y_edges h ⟨rfl, rfl⟩) (fun z8 e => ?_)
  refine wp_p (j := J_Y_paintButton) 3 (pc' := 36) (lv' := [(5, .int ((z5 + z7) - z8)), (4, .int (z2 + z3)), (0, .ref v0), (1, .int v1), (2, .int v2), (3, .int v3)]) (st' := [.ref v0]) rfl ?_
  refine x_gQ e rfl rfl fd_12_111 rfl (fun z9 e => ?_)
  refine wp_p (j := J_Y_paintButton) 1 (pc' := 40) (lv' := [(5, .int ((z5 + z7) - z8)), (4, .int (z2 + z3)), (0, .ref v0), (1, .int v1), (2, .int v2), (3, .int v3)]) (st' := [.int v1, .ref z9]) rfl ?_
  refine x_aI e rfl rfl (fun z10 e => ?_)
  refine wp_p (j := J_Y_paintButton) 2 (pc' := 43) (lv' := [(5, .int ((z5 + z7) - z8)), (4, .int (z2 + z3)), (0, .ref v0), (1, .int v1), (2, .int v2), (3, .int v3)]) (st' := [.int v1, .ref v0, .int z10]) rfl ?_
  refine x_cv1 (As := [.int v1]) (rest := [.int z10]) Value.int e rfl rfl rfl rfl rfl rfl (fun h => d_Y_edges h ⟨rfl, rfl⟩) (fun z11 e => ?_)
  refine wp_p (j := J_Y_paintButton) 8 (pc' := 58) (lv' := [(9, .int v1), (8, .int 0), (7, .int 0), (6, .int (z10 + z11)), (5, .int ((z5 + z7) - z8)), (4, .int (z2 + z3)), (0, .ref v0), (1, .int v1), (2, .int v2), (3, .int v3)]) (st' := []) rfl ?_
  obtain ⟨s12, h13, e⟩ := bd e
  refine wp_lv (lv' := [(0, .ref v0), (1, .int v1), (2, .int v2), (3, .int v3), (4, .int (z2 + z3)), (5, .int ((z5 + z7) - z8)), (6, .int (z10 + z11)), (7, .int 0), (8, .int 0), (9, .int v1)]) rfl ⟨rfl, rfl, rfl, rfl, rfl, rfl, rfl, rfl, rfl, rfl, trivial⟩ ?_
  refine l_Y_paintButton_58 h13 ?_
  rcases s12 with g14 | g15
  · replace e := (us_l e)
    show wp (ab_ext L xs) J_Y_paintButton 175 [] [] (hp g14) Q
    have e := Option.some.inj e; subst e; exact wp_vret rfl rfl c
  · replace e := (us_r e)
    show wp (ab_ext L xs) J_Y_paintButton 222 [] [] (hp g15) Q
    have e := Option.some.inj e; subst e; exact wp_vret rfl rfl c
def cL_Y_paint_107 (L : Nat) (xs : Nat → Int32) (Q : Option Value → ab_H → Prop) (v0 : Nat) (v1 : Int32) (v2 : Int32) (v3 : Int32) (v4 : Int32) (v5 : Int32) (out : (Int32 × g_S) ⊕ (g_S)) : Prop := match out with
  | .inl s => wp (ab_ext L xs) J_Y_paint 107 [(0, .ref v0), (1, .int v1), (2, .int v2), (3, .int v3), (4, .int v4), (5, .int v5), (6, .int s.1)] [] (hp s.2) Q
  | .inr s => wp (ab_ext L xs) J_Y_paint 130 [(0, .ref v0), (1, .int v1), (2, .int v2), (3, .int v3), (4, .int v4)] [] (hp s) Q
noncomputable def b_Y_paint_107 (v0 : Nat) (v1 : Int32) (v2 : Int32) (v3 : Int32) (v4 : Int32) (v5 : Int32) (v6 : Int32) (g : g_S) : Option ((Int32 × g_S) ⊕ (g_S)) :=
  if v6 < v5 then
    (vc g 112 v0 (M_Y_paintWord v0 v4 v6 v1 v2 g)).bind fun g1 =>
    some (.inl (v6 + 1, g1))
  else
    some (.inr g)
set_option maxRecDepth 20000 in
theorem y_Y_paint_107 {L : Nat} {xs : Nat → Int32} {Q : Option Value → ab_H → Prop} {v0 : Nat} {v1 : Int32} {v2 : Int32} {v3 : Int32} {v4 : Int32} {v5 : Int32} {v6 : Int32} {g : g_S} {out : (Int32 × g_S) ⊕ (g_S)} (e : b_Y_paint_107 v0 v1 v2 v3 v4 v5 v6 g = some out) (c : cL_Y_paint_107 L xs Q v0 v1 v2 v3 v4 v5 out) : wp (ab_ext L xs) J_Y_paint 107 [(0, .ref v0), (1, .int v1), (2, .int v2), (3, .int v3), (4, .int v4), (5, .int v5), (6, .int v6)] [] (hp g) Q := by
  unfold b_Y_paint_107 at e
  refine wp_p (j := J_Y_paint) 2 (pc' := 111) (lv' := [(0, .ref v0), (1, .int v1), (2, .int v2), (3, .int v3), (4, .int v4), (5, .int v5), (6, .int v6)]) (st' := [.int v5, .int v6]) rfl ?_
  refine x_ge e rfl (fun e => ?_) (fun e => ?_)
  · refine wp_p (j := J_Y_paint) 5 (pc' := 121) (lv' := [(0, .ref v0), (1, .int v1), (2, .int v2), (3, .int v3), (4, .int v4), (5, .int v5), (6, .int v6)]) (st' := [.int v2, .int v1, .int v6, .int v4, .ref v0]) rfl ?_
    refine x_cv0 (As := [.int v4, .int v6, .int v1, .int v2]) (rest := []) e rfl rfl rfl rfl rfl rfl (fun h => d_Y_paintWord h ⟨rfl, rfl⟩) (fun g1 e => ?_)
    refine wp_p (j := J_Y_paint) 2 (pc' := 107) (lv' := [(6, .int (v6 + 1)), (0, .ref v0), (1, .int v1), (2, .int v2), (3, .int v3), (4, .int v4), (5, .int v5)]) (st' := []) rfl ?_
    have e := Option.some.inj e; subst e; exact wp_lv (lv' := [(0, .ref v0), (1, .int v1), (2, .int v2), (3, .int v3), (4, .int v4), (5, .int v5), (6, .int (v6 + 1))]) rfl ⟨rfl, rfl, rfl, rfl, rfl, rfl, rfl, trivial⟩ c
  · have e := Option.some.inj e; subst e; exact wp_lv (lv' := [(0, .ref v0), (1, .int v1), (2, .int v2), (3, .int v3), (4, .int v4)]) rfl ⟨rfl, rfl, rfl, rfl, rfl, trivial⟩ c
noncomputable def L_Y_paint_107 (v0 : Nat) (v1 : Int32) (v2 : Int32) (v3 : Int32) (v4 : Int32) (v5 : Int32) (v6 : Int32) (g : g_S) : Option (g_S) := it (fun s : Int32 × g_S => b_Y_paint_107 v0 v1 v2 v3 v4 v5 s.1 s.2) (v6, g)
theorem l_Y_paint_107 {L : Nat} {xs : Nat → Int32} {Q : Option Value → ab_H → Prop} {v0 : Nat} {v1 : Int32} {v2 : Int32} {v3 : Int32} {v4 : Int32} {v5 : Int32} {v6 : Int32} {g : g_S} {r : g_S} (e : L_Y_paint_107 v0 v1 v2 v3 v4 v5 v6 g = some r) (c : cL_Y_paint_107 L xs Q v0 v1 v2 v3 v4 v5 (.inr r)) : wp (ab_ext L xs) J_Y_paint 107 [(0, .ref v0), (1, .int v1), (2, .int v2), (3, .int v3), (4, .int v4), (5, .int v5), (6, .int v6)] [] (hp g) Q :=
  it_wp (P := fun s : Int32 × g_S => wp (ab_ext L xs) J_Y_paint 107 [(0, .ref v0), (1, .int v1), (2, .int v2), (3, .int v3), (4, .int v4), (5, .int v5), (6, .int s.1)] [] (hp s.2) Q) (E := fun r => cL_Y_paint_107 L xs Q v0 v1 v2 v3 v4 v5 (.inr r)) (fun s out e c => y_Y_paint_107 e (by cases out <;> exact c)) e c
theorem L_Y_paint_107_eq (v0 : Nat) (v1 : Int32) (v2 : Int32) (v3 : Int32) (v4 : Int32) (v5 : Int32) (v6 : Int32) (g : g_S) : L_Y_paint_107 v0 v1 v2 v3 v4 v5 v6 g = itc (b_Y_paint_107 v0 v1 v2 v3 v4 v5 v6 g) (fun s => L_Y_paint_107 v0 v1 v2 v3 v4 v5 s.1 s.2) := it_eq2 (fun s : Int32 × g_S => b_Y_paint_107 v0 v1 v2 v3 v4 v5 s.1 s.2) (v6, g)
def cL_Y_paint_38 (L : Nat) (xs : Nat → Int32) (Q : Option Value → ab_H → Prop) (v0 : Nat) (v1 : Int32) (v2 : Int32) (out : (Int32 × g_S) ⊕ (g_S)) : Prop := match out with
  | .inl s => wp (ab_ext L xs) J_Y_paint 38 [(0, .ref v0), (1, .int v1), (2, .int v2), (3, .int s.1)] [] (hp s.2) Q
  | .inr s => wp (ab_ext L xs) J_Y_paint 309 [] [] (hp s) Q
noncomputable def k_Y_paint_272 (v0 : Nat) (v1 : Int32) (v2 : Int32) (v3 : Int32) (v4 : Int32) (g : g_S) : Option ((Int32 × g_S) ⊕ (g_S)) :=
  (rQ g 112 v0 107).bind fun z1 =>
  (aI g 0 z1 v4).bind fun z2 =>
  if z2 = 4 then
    (rQ g 112 v0 46).bind fun z3 =>
    (aI g 0 z3 v4).bind fun z4 =>
    if z4 = 14 then
      (vc g 112 v0 (M_Y_paintButton v0 v4 v1 v2 g)).bind fun g5 =>
      some (.inl (v3 + 1, g5))
    else
      some (.inl (v3 + 1, g))
  else
    some (.inl (v3 + 1, g))
set_option maxRecDepth 20000 in
theorem x_Y_paint_272 {L : Nat} {xs : Nat → Int32} {Q : Option Value → ab_H → Prop} {v0 : Nat} {v1 : Int32} {v2 : Int32} {v3 : Int32} {v4 : Int32} {g : g_S} {out : (Int32 × g_S) ⊕ (g_S)} (e : k_Y_paint_272 v0 v1 v2 v3 v4 g = some out) (c : cL_Y_paint_38 L xs Q v0 v1 v2 out) : wp (ab_ext L xs) J_Y_paint 272 [(0, .ref v0), (1, .int v1), (2, .int v2), (3, .int v3), (4, .int v4)] [] (hp g) Q := by
  unfold k_Y_paint_272 at e
  refine wp_p (j := J_Y_paint) 1 (pc' := 273) (lv' := [(0, .ref v0), (1, .int v1), (2, .int v2), (3, .int v3), (4, .int v4)]) (st' := [.ref v0]) rfl ?_
  refine x_gQ e rfl rfl fd_12_107 rfl (fun z1 e => ?_)
  refine wp_p (j := J_Y_paint) 1 (pc' := 278) (lv' := [(0, .ref v0), (1, .int v1), (2, .int v2), (3, .int v3), (4, .int v4)]) (st' := [.int v4, .ref z1]) rfl ?_
  refine x_aI e rfl rfl (fun z2 e => ?_)
  refine wp_p (j := J_Y_paint) 1 (pc' := 280) (lv' := [(0, .ref v0), (1, .int v1), (2, .int v2), (3, .int v3), (4, .int v4)]) (st' := [.int 4, .int z2]) rfl ?_
  refine x_ne e rfl (fun e => ?_) (fun e => ?_)
  · refine wp_p (j := J_Y_paint) 1 (pc' := 284) (lv' := [(0, .ref v0), (1, .int v1), (2, .int v2), (3, .int v3), (4, .int v4)]) (st' := [.ref v0]) rfl ?_
    refine x_gQ e rfl rfl fd_12_46 rfl (fun z3 e => ?_)
    refine wp_p (j := J_Y_paint) 1 (pc' := 289) (lv' := [(0, .ref v0), (1, .int v1), (2, .int v2), (3, .int v3), (4, .int v4)]) (st' := [.int v4, .ref z3]) rfl ?_
    refine x_aI e rfl rfl (fun z4 e => ?_)
    refine wp_p (j := J_Y_paint) 1 (pc' := 292) (lv' := [(0, .ref v0), (1, .int v1), (2, .int v2), (3, .int v3), (4, .int v4)]) (st' := [.int 14, .int z4]) rfl ?_
    refine x_ne e rfl (fun e => ?_) (fun e => ?_)
    · refine wp_p (j := J_Y_paint) 4 (pc' := 300) (lv' := [(0, .ref v0), (1, .int v1), (2, .int v2), (3, .int v3), (4, .int v4)]) (st' := [.int v2, .int v1, .int v4, .ref v0]) rfl ?_
      refine x_cv0 (As := [.int v4, .int v1, .int v2]) (rest := []) e rfl rfl rfl rfl rfl rfl (fun h => d_Y_paintButton h ⟨rfl, rfl⟩) (fun g5 e => ?_)
      refine wp_p (j := J_Y_paint) 2 (pc' := 38) (lv' := [(3, .int (v3 + 1)), (0, .ref v0), (1, .int v1), (2, .int v2), (4, .int v4)]) (st' := []) rfl ?_
      have e := Option.some.inj e; subst e; exact wp_lv (lv' := [(0, .ref v0), (1, .int v1), (2, .int v2), (3, .int (v3 + 1))]) rfl ⟨rfl, rfl, rfl, rfl, trivial⟩ c
    · refine wp_p (j := J_Y_paint) 2 (pc' := 38) (lv' := [(3, .int (v3 + 1)), (0, .ref v0), (1, .int v1), (2, .int v2), (4, .int v4)]) (st' := []) rfl ?_
      have e := Option.some.inj e; subst e; exact wp_lv (lv' := [(0, .ref v0), (1, .int v1), (2, .int v2), (3, .int (v3 + 1))]) rfl ⟨rfl, rfl, rfl, rfl, trivial⟩ c
  · refine wp_p (j := J_Y_paint) 2 (pc' := 38) (lv' := [(3, .int (v3 + 1)), (0, .ref v0), (1, .int v1), (2, .int v2), (4, .int v4)]) (st' := []) rfl ?_
    have e := Option.some.inj e; subst e; exact wp_lv (lv' := [(0, .ref v0), (1, .int v1), (2, .int v2), (3, .int (v3 + 1))]) rfl ⟨rfl, rfl, rfl, rfl, trivial⟩ c
noncomputable def k_Y_paint_241 (v0 : Nat) (v1 : Int32) (v2 : Int32) (v3 : Int32) (v4 : Int32) (g : g_S) : Option ((Int32 × g_S) ⊕ (g_S)) :=
  (rQ g 112 v0 107).bind fun z1 =>
  (aI g 0 z1 v4).bind fun z2 =>
  if z2 = 4 then
    (rQ g 112 v0 46).bind fun z3 =>
    (aI g 0 z3 v4).bind fun z4 =>
    if z4 = 13 then
      (vc g 112 v0 (M_Y_paintInput v0 v4 v1 v2 g)).bind fun g5 =>
      k_Y_paint_272 v0 v1 v2 v3 v4 g5
    else
      k_Y_paint_272 v0 v1 v2 v3 v4 g
  else
    k_Y_paint_272 v0 v1 v2 v3 v4 g
set_option maxRecDepth 20000 in
theorem x_Y_paint_241 {L : Nat} {xs : Nat → Int32} {Q : Option Value → ab_H → Prop} {v0 : Nat} {v1 : Int32} {v2 : Int32} {v3 : Int32} {v4 : Int32} {g : g_S} {out : (Int32 × g_S) ⊕ (g_S)} (e : k_Y_paint_241 v0 v1 v2 v3 v4 g = some out) (c : cL_Y_paint_38 L xs Q v0 v1 v2 out) : wp (ab_ext L xs) J_Y_paint 241 [(0, .ref v0), (1, .int v1), (2, .int v2), (3, .int v3), (4, .int v4)] [] (hp g) Q := by
  unfold k_Y_paint_241 at e
  refine wp_p (j := J_Y_paint) 1 (pc' := 242) (lv' := [(0, .ref v0), (1, .int v1), (2, .int v2), (3, .int v3), (4, .int v4)]) (st' := [.ref v0]) rfl ?_
  refine x_gQ e rfl rfl fd_12_107 rfl (fun z1 e => ?_)
  refine wp_p (j := J_Y_paint) 1 (pc' := 247) (lv' := [(0, .ref v0), (1, .int v1), (2, .int v2), (3, .int v3), (4, .int v4)]) (st' := [.int v4, .ref z1]) rfl ?_
  refine x_aI e rfl rfl (fun z2 e => ?_)
  refine wp_p (j := J_Y_paint) 1 (pc' := 249) (lv' := [(0, .ref v0), (1, .int v1), (2, .int v2), (3, .int v3), (4, .int v4)]) (st' := [.int 4, .int z2]) rfl ?_
  refine x_ne e rfl (fun e => ?_) (fun e => ?_)
  · refine wp_p (j := J_Y_paint) 1 (pc' := 253) (lv' := [(0, .ref v0), (1, .int v1), (2, .int v2), (3, .int v3), (4, .int v4)]) (st' := [.ref v0]) rfl ?_
    refine x_gQ e rfl rfl fd_12_46 rfl (fun z3 e => ?_)
    refine wp_p (j := J_Y_paint) 1 (pc' := 258) (lv' := [(0, .ref v0), (1, .int v1), (2, .int v2), (3, .int v3), (4, .int v4)]) (st' := [.int v4, .ref z3]) rfl ?_
    refine x_aI e rfl rfl (fun z4 e => ?_)
    refine wp_p (j := J_Y_paint) 1 (pc' := 261) (lv' := [(0, .ref v0), (1, .int v1), (2, .int v2), (3, .int v3), (4, .int v4)]) (st' := [.int 13, .int z4]) rfl ?_
    refine x_ne e rfl (fun e => ?_) (fun e => ?_)
    · refine wp_p (j := J_Y_paint) 4 (pc' := 269) (lv' := [(0, .ref v0), (1, .int v1), (2, .int v2), (3, .int v3), (4, .int v4)]) (st' := [.int v2, .int v1, .int v4, .ref v0]) rfl ?_
      refine x_cv0 (As := [.int v4, .int v1, .int v2]) (rest := []) e rfl rfl rfl rfl rfl rfl (fun h => d_Y_paintInput h ⟨rfl, rfl⟩) (fun g5 e => ?_)
      exact wp_lv (lv' := [(0, .ref v0), (1, .int v1), (2, .int v2), (3, .int v3), (4, .int v4)]) rfl ⟨rfl, rfl, rfl, rfl, rfl, trivial⟩ (x_Y_paint_272 e c)
    · exact wp_lv (lv' := [(0, .ref v0), (1, .int v1), (2, .int v2), (3, .int v3), (4, .int v4)]) rfl ⟨rfl, rfl, rfl, rfl, rfl, trivial⟩ (x_Y_paint_272 e c)
  · exact wp_lv (lv' := [(0, .ref v0), (1, .int v1), (2, .int v2), (3, .int v3), (4, .int v4)]) rfl ⟨rfl, rfl, rfl, rfl, rfl, trivial⟩ (x_Y_paint_272 e c)
noncomputable def k_Y_paint_233 (v0 : Nat) (v1 : Int32) (v2 : Int32) (v3 : Int32) (v4 : Int32) (g : g_S) : Option ((Int32 × g_S) ⊕ (g_S)) :=
  (vc g 112 v0 (M_Y_paintBox v0 v4 v1 v2 g)).bind fun g1 =>
  k_Y_paint_241 v0 v1 v2 v3 v4 g1
set_option maxRecDepth 20000 in
theorem x_Y_paint_233 {L : Nat} {xs : Nat → Int32} {Q : Option Value → ab_H → Prop} {v0 : Nat} {v1 : Int32} {v2 : Int32} {v3 : Int32} {v4 : Int32} {g : g_S} {out : (Int32 × g_S) ⊕ (g_S)} (e : k_Y_paint_233 v0 v1 v2 v3 v4 g = some out) (c : cL_Y_paint_38 L xs Q v0 v1 v2 out) : wp (ab_ext L xs) J_Y_paint 233 [(0, .ref v0), (1, .int v1), (2, .int v2), (3, .int v3), (4, .int v4)] [] (hp g) Q := by
  unfold k_Y_paint_233 at e
  refine wp_p (j := J_Y_paint) 4 (pc' := 238) (lv' := [(0, .ref v0), (1, .int v1), (2, .int v2), (3, .int v3), (4, .int v4)]) (st' := [.int v2, .int v1, .int v4, .ref v0]) rfl ?_
  refine x_cv0 (As := [.int v4, .int v1, .int v2]) (rest := []) e rfl rfl rfl rfl rfl rfl (fun h => d_Y_paintBox h ⟨rfl, rfl⟩) (fun g1 e => ?_)
  exact wp_lv (lv' := [(0, .ref v0), (1, .int v1), (2, .int v2), (3, .int v3), (4, .int v4)]) rfl ⟨rfl, rfl, rfl, rfl, rfl, trivial⟩ (x_Y_paint_241 e c)
noncomputable def k_Y_paint_153 (v0 : Nat) (v1 : Int32) (v2 : Int32) (v3 : Int32) (v4 : Int32) (g : g_S) : Option ((Int32 × g_S) ⊕ (g_S)) :=
  (rQ g 112 v0 110).bind fun z1 =>
  (aI g 0 z1 v4).bind fun z2 =>
  (rQ g 112 v0 111).bind fun z3 =>
  (aI g 0 z3 v4).bind fun z4 =>
  (rQ g 112 v0 112).bind fun z5 =>
  (aI g 0 z5 v4).bind fun z6 =>
  (rQ g 112 v0 113).bind fun z7 =>
  (aI g 0 z7 v4).bind fun z8 =>
  (vc g 112 v0 (M_Y_isIn v0 v1 v2 z2 z4 z6 z8 g)).bind fun z9 =>
  if z9 = 0 then
    k_Y_paint_241 v0 v1 v2 v3 v4 g
  else
    (wI g 112 v0 147 v4).bind fun g10 =>
    (rQ g10 112 v0 46).bind fun z11 =>
    (aI g10 0 z11 v4).bind fun z12 =>
    if z12 = 12 then
      (rQ g10 112 v0 107).bind fun z13 =>
      (aI g10 0 z13 v4).bind fun z14 =>
      if z14 = 4 then
        (vc g10 112 v0 (M_Y_of v0 v4 1 g10)).bind fun z15 =>
        (wI g10 112 v0 146 z15).bind fun g16 =>
        k_Y_paint_241 v0 v1 v2 v3 v4 g16
      else
        k_Y_paint_233 v0 v1 v2 v3 v4 g10
    else
      k_Y_paint_233 v0 v1 v2 v3 v4 g10
set_option maxRecDepth 20000 in
theorem x_Y_paint_153 {L : Nat} {xs : Nat → Int32} {Q : Option Value → ab_H → Prop} {v0 : Nat} {v1 : Int32} {v2 : Int32} {v3 : Int32} {v4 : Int32} {g : g_S} {out : (Int32 × g_S) ⊕ (g_S)} (e : k_Y_paint_153 v0 v1 v2 v3 v4 g = some out) (c : cL_Y_paint_38 L xs Q v0 v1 v2 out) : wp (ab_ext L xs) J_Y_paint 153 [(0, .ref v0), (1, .int v1), (2, .int v2), (3, .int v3), (4, .int v4)] [] (hp g) Q := by
  unfold k_Y_paint_153 at e
  refine wp_p (j := J_Y_paint) 4 (pc' := 157) (lv' := [(0, .ref v0), (1, .int v1), (2, .int v2), (3, .int v3), (4, .int v4)]) (st' := [.ref v0, .int v2, .int v1, .ref v0]) rfl ?_
  refine x_gQ e rfl rfl fd_12_110 rfl (fun z1 e => ?_)
  refine wp_p (j := J_Y_paint) 1 (pc' := 162) (lv' := [(0, .ref v0), (1, .int v1), (2, .int v2), (3, .int v3), (4, .int v4)]) (st' := [.int v4, .ref z1, .int v2, .int v1, .ref v0]) rfl ?_
  refine x_aI e rfl rfl (fun z2 e => ?_)
  refine wp_p (j := J_Y_paint) 1 (pc' := 164) (lv' := [(0, .ref v0), (1, .int v1), (2, .int v2), (3, .int v3), (4, .int v4)]) (st' := [.ref v0, .int z2, .int v2, .int v1, .ref v0]) rfl ?_
  refine x_gQ e rfl rfl fd_12_111 rfl (fun z3 e => ?_)
  refine wp_p (j := J_Y_paint) 1 (pc' := 169) (lv' := [(0, .ref v0), (1, .int v1), (2, .int v2), (3, .int v3), (4, .int v4)]) (st' := [.int v4, .ref z3, .int z2, .int v2, .int v1, .ref v0]) rfl ?_
  refine x_aI e rfl rfl (fun z4 e => ?_)
  refine wp_p (j := J_Y_paint) 1 (pc' := 171) (lv' := [(0, .ref v0), (1, .int v1), (2, .int v2), (3, .int v3), (4, .int v4)]) (st' := [.ref v0, .int z4, .int z2, .int v2, .int v1, .ref v0]) rfl ?_
  refine x_gQ e rfl rfl fd_12_112 rfl (fun z5 e => ?_)
  refine wp_p (j := J_Y_paint) 1 (pc' := 176) (lv' := [(0, .ref v0), (1, .int v1), (2, .int v2), (3, .int v3), (4, .int v4)]) (st' := [.int v4, .ref z5, .int z4, .int z2, .int v2, .int v1, .ref v0]) rfl ?_
  refine x_aI e rfl rfl (fun z6 e => ?_)
  refine wp_p (j := J_Y_paint) 1 (pc' := 178) (lv' := [(0, .ref v0), (1, .int v1), (2, .int v2), (3, .int v3), (4, .int v4)]) (st' := [.ref v0, .int z6, .int z4, .int z2, .int v2, .int v1, .ref v0]) rfl ?_
  refine x_gQ e rfl rfl fd_12_113 rfl (fun z7 e => ?_)
  refine wp_p (j := J_Y_paint) 1 (pc' := 183) (lv' := [(0, .ref v0), (1, .int v1), (2, .int v2), (3, .int v3), (4, .int v4)]) (st' := [.int v4, .ref z7, .int z6, .int z4, .int z2, .int v2, .int v1, .ref v0]) rfl ?_
  refine x_aI e rfl rfl (fun z8 e => ?_)
  refine x_cv1 (As := [.int v1, .int v2, .int z2, .int z4, .int z6, .int z8]) (rest := []) Value.int e rfl rfl rfl rfl rfl rfl (fun h => d_Y_isIn h ⟨rfl, rfl⟩) (fun z9 e => ?_)
  refine z_eq e rfl (fun e => ?_) (fun e => ?_)
  · exact wp_lv (lv' := [(0, .ref v0), (1, .int v1), (2, .int v2), (3, .int v3), (4, .int v4)]) rfl ⟨rfl, rfl, rfl, rfl, rfl, trivial⟩ (x_Y_paint_241 e c)
  · refine wp_p (j := J_Y_paint) 2 (pc' := 193) (lv' := [(0, .ref v0), (1, .int v1), (2, .int v2), (3, .int v3), (4, .int v4)]) (st' := [.int v4, .ref v0]) rfl ?_
    refine x_pI e rfl rfl fw_12_147 rfl (fun g10 e => ?_)
    refine wp_p (j := J_Y_paint) 1 (pc' := 197) (lv' := [(0, .ref v0), (1, .int v1), (2, .int v2), (3, .int v3), (4, .int v4)]) (st' := [.ref v0]) rfl ?_
    refine x_gQ e rfl rfl fd_12_46 rfl (fun z11 e => ?_)
    refine wp_p (j := J_Y_paint) 1 (pc' := 202) (lv' := [(0, .ref v0), (1, .int v1), (2, .int v2), (3, .int v3), (4, .int v4)]) (st' := [.int v4, .ref z11]) rfl ?_
    refine x_aI e rfl rfl (fun z12 e => ?_)
    refine wp_p (j := J_Y_paint) 1 (pc' := 205) (lv' := [(0, .ref v0), (1, .int v1), (2, .int v2), (3, .int v3), (4, .int v4)]) (st' := [.int 12, .int z12]) rfl ?_
    refine x_ne e rfl (fun e => ?_) (fun e => ?_)
    · refine wp_p (j := J_Y_paint) 1 (pc' := 209) (lv' := [(0, .ref v0), (1, .int v1), (2, .int v2), (3, .int v3), (4, .int v4)]) (st' := [.ref v0]) rfl ?_
      refine x_gQ e rfl rfl fd_12_107 rfl (fun z13 e => ?_)
      refine wp_p (j := J_Y_paint) 1 (pc' := 214) (lv' := [(0, .ref v0), (1, .int v1), (2, .int v2), (3, .int v3), (4, .int v4)]) (st' := [.int v4, .ref z13]) rfl ?_
      refine x_aI e rfl rfl (fun z14 e => ?_)
      refine wp_p (j := J_Y_paint) 1 (pc' := 216) (lv' := [(0, .ref v0), (1, .int v1), (2, .int v2), (3, .int v3), (4, .int v4)]) (st' := [.int 4, .int z14]) rfl ?_
      refine x_ne e rfl (fun e => ?_) (fun e => ?_)
      · refine wp_p (j := J_Y_paint) 4 (pc' := 224) (lv' := [(0, .ref v0), (1, .int v1), (2, .int v2), (3, .int v3), (4, .int v4)]) (st' := [.int 1, .int v4, .ref v0, .ref v0]) rfl ?_
        refine x_cv1 (As := [.int v4, .int 1]) (rest := [.ref v0]) Value.int e rfl rfl rfl rfl rfl rfl (fun h => d_Y_of h ⟨rfl, rfl⟩) (fun z15 e => ?_)
        refine x_pI e rfl rfl fw_12_146 rfl (fun g16 e => ?_)
        refine wp_p (j := J_Y_paint) 1 (pc' := 241) (lv' := [(0, .ref v0), (1, .int v1), (2, .int v2), (3, .int v3), (4, .int v4)]) (st' := []) rfl ?_
        exact wp_lv (lv' := [(0, .ref v0), (1, .int v1), (2, .int v2), (3, .int v3), (4, .int v4)]) rfl ⟨rfl, rfl, rfl, rfl, rfl, trivial⟩ (x_Y_paint_241 e c)
      · exact wp_lv (lv' := [(0, .ref v0), (1, .int v1), (2, .int v2), (3, .int v3), (4, .int v4)]) rfl ⟨rfl, rfl, rfl, rfl, rfl, trivial⟩ (x_Y_paint_233 e c)
    · exact wp_lv (lv' := [(0, .ref v0), (1, .int v1), (2, .int v2), (3, .int v3), (4, .int v4)]) rfl ⟨rfl, rfl, rfl, rfl, rfl, trivial⟩ (x_Y_paint_233 e c)
noncomputable def k_Y_paint_96 (v0 : Nat) (v1 : Int32) (v2 : Int32) (v3 : Int32) (v4 : Int32) (w0 : Int32) (g : g_S) : Option ((Int32 × g_S) ⊕ (g_S)) :=
  (rQ g 112 v0 116).bind fun z1 =>
  (aI g 0 z1 v4).bind fun z2 =>
  (L_Y_paint_107 v0 v1 v2 v3 v4 w0 z2 g).bind <| fun g5 =>
  k_Y_paint_241 v0 v1 v2 v3 v4 g5
set_option maxRecDepth 20000 in
theorem x_Y_paint_96 {L : Nat} {xs : Nat → Int32} {Q : Option Value → ab_H → Prop} {v0 : Nat} {v1 : Int32} {v2 : Int32} {v3 : Int32} {v4 : Int32} {w0 : Int32} {g : g_S} {out : (Int32 × g_S) ⊕ (g_S)} (e : k_Y_paint_96 v0 v1 v2 v3 v4 w0 g = some out) (c : cL_Y_paint_38 L xs Q v0 v1 v2 out) : wp (ab_ext L xs) J_Y_paint 96 [(0, .ref v0), (1, .int v1), (2, .int v2), (3, .int v3), (4, .int v4)] [.int w0] (hp g) Q := by
  unfold k_Y_paint_96 at e
  refine wp_p (j := J_Y_paint) 2 (pc' := 99) (lv' := [(5, .int w0), (0, .ref v0), (1, .int v1), (2, .int v2), (3, .int v3), (4, .int v4)]) (st' := [.ref v0]) rfl ?_
  refine x_gQ e rfl rfl fd_12_116 rfl (fun z1 e => ?_)
  refine wp_p (j := J_Y_paint) 1 (pc' := 104) (lv' := [(5, .int w0), (0, .ref v0), (1, .int v1), (2, .int v2), (3, .int v3), (4, .int v4)]) (st' := [.int v4, .ref z1]) rfl ?_
  refine x_aI e rfl rfl (fun z2 e => ?_)
  refine wp_p (j := J_Y_paint) 1 (pc' := 107) (lv' := [(6, .int z2), (5, .int w0), (0, .ref v0), (1, .int v1), (2, .int v2), (3, .int v3), (4, .int v4)]) (st' := []) rfl ?_
  obtain ⟨g5, h4, e⟩ := bd e
  refine wp_lv (lv' := [(0, .ref v0), (1, .int v1), (2, .int v2), (3, .int v3), (4, .int v4), (5, .int w0), (6, .int z2)]) rfl ⟨rfl, rfl, rfl, rfl, rfl, rfl, rfl, trivial⟩ ?_
  refine l_Y_paint_107 h4 ?_
  show wp (ab_ext L xs) J_Y_paint 130 [(0, .ref v0), (1, .int v1), (2, .int v2), (3, .int v3), (4, .int v4)] [] (hp g5) Q
  refine wp_p (j := J_Y_paint) 1 (pc' := 241) (lv' := [(0, .ref v0), (1, .int v1), (2, .int v2), (3, .int v3), (4, .int v4)]) (st' := []) rfl ?_
  exact wp_lv (lv' := [(0, .ref v0), (1, .int v1), (2, .int v2), (3, .int v3), (4, .int v4)]) rfl ⟨rfl, rfl, rfl, rfl, rfl, trivial⟩ (x_Y_paint_241 e c)
noncomputable def b_Y_paint_38 (v0 : Nat) (v1 : Int32) (v2 : Int32) (v3 : Int32) (g : g_S) : Option ((Int32 × g_S) ⊕ (g_S)) :=
  (rI g 112 v0 125).bind fun z1 =>
  if v3 < z1 then
    (rQ g 112 v0 124).bind fun z2 =>
    (aI g 0 z2 v3).bind fun z3 =>
    (rQ g 112 v0 107).bind fun z4 =>
    (aI g 0 z4 z3).bind fun z5 =>
    if z5 = 6 then
      (rI g 112 v0 125).bind fun z6 =>
      if (v3 + 1) < z6 then
        (rQ g 112 v0 116).bind fun z7 =>
        (rQ g 112 v0 124).bind fun z8 =>
        (aI g 0 z8 (v3 + 1)).bind fun z9 =>
        (aI g 0 z7 z9).bind fun z10 =>
        k_Y_paint_96 v0 v1 v2 v3 z3 z10 g
      else
        (rI g 112 v0 117).bind fun z11 =>
        k_Y_paint_96 v0 v1 v2 v3 z3 z11 g
    else
      (vc g 112 v0 (M_Y_isBox v0 z3 g)).bind fun z12 =>
      if z12 = 0 then
        (rQ g 112 v0 107).bind fun z13 =>
        (aI g 0 z13 z3).bind fun z14 =>
        if z14 = 4 then
          k_Y_paint_153 v0 v1 v2 v3 z3 g
        else
          k_Y_paint_241 v0 v1 v2 v3 z3 g
      else
        k_Y_paint_153 v0 v1 v2 v3 z3 g
  else
    some (.inr g)
set_option maxRecDepth 20000 in
theorem y_Y_paint_38 {L : Nat} {xs : Nat → Int32} {Q : Option Value → ab_H → Prop} {v0 : Nat} {v1 : Int32} {v2 : Int32} {v3 : Int32} {g : g_S} {out : (Int32 × g_S) ⊕ (g_S)} (e : b_Y_paint_38 v0 v1 v2 v3 g = some out) (c : cL_Y_paint_38 L xs Q v0 v1 v2 out) : wp (ab_ext L xs) J_Y_paint 38 [(0, .ref v0), (1, .int v1), (2, .int v2), (3, .int v3)] [] (hp g) Q := by
  unfold b_Y_paint_38 at e
  refine wp_p (j := J_Y_paint) 2 (pc' := 40) (lv' := [(0, .ref v0), (1, .int v1), (2, .int v2), (3, .int v3)]) (st' := [.ref v0, .int v3]) rfl ?_
  refine x_gI e rfl rfl fd_12_125 rfl (fun z1 e => ?_)
  refine x_ge e rfl (fun e => ?_) (fun e => ?_)
  · refine wp_p (j := J_Y_paint) 1 (pc' := 47) (lv' := [(0, .ref v0), (1, .int v1), (2, .int v2), (3, .int v3)]) (st' := [.ref v0]) rfl ?_
    refine x_gQ e rfl rfl fd_12_124 rfl (fun z2 e => ?_)
    refine wp_p (j := J_Y_paint) 1 (pc' := 51) (lv' := [(0, .ref v0), (1, .int v1), (2, .int v2), (3, .int v3)]) (st' := [.int v3, .ref z2]) rfl ?_
    refine x_aI e rfl rfl (fun z3 e => ?_)
    refine wp_p (j := J_Y_paint) 2 (pc' := 55) (lv' := [(4, .int z3), (0, .ref v0), (1, .int v1), (2, .int v2), (3, .int v3)]) (st' := [.ref v0]) rfl ?_
    refine x_gQ e rfl rfl fd_12_107 rfl (fun z4 e => ?_)
    refine wp_p (j := J_Y_paint) 1 (pc' := 60) (lv' := [(4, .int z3), (0, .ref v0), (1, .int v1), (2, .int v2), (3, .int v3)]) (st' := [.int z3, .ref z4]) rfl ?_
    refine x_aI e rfl rfl (fun z5 e => ?_)
    refine wp_p (j := J_Y_paint) 1 (pc' := 63) (lv' := [(4, .int z3), (0, .ref v0), (1, .int v1), (2, .int v2), (3, .int v3)]) (st' := [.int 6, .int z5]) rfl ?_
    refine x_ne e rfl (fun e => ?_) (fun e => ?_)
    · refine wp_p (j := J_Y_paint) 4 (pc' := 70) (lv' := [(4, .int z3), (0, .ref v0), (1, .int v1), (2, .int v2), (3, .int v3)]) (st' := [.ref v0, .int (v3 + 1)]) rfl ?_
      refine x_gI e rfl rfl fd_12_125 rfl (fun z6 e => ?_)
      refine x_ge e rfl (fun e => ?_) (fun e => ?_)
      · refine wp_p (j := J_Y_paint) 1 (pc' := 77) (lv' := [(4, .int z3), (0, .ref v0), (1, .int v1), (2, .int v2), (3, .int v3)]) (st' := [.ref v0]) rfl ?_
        refine x_gQ e rfl rfl fd_12_116 rfl (fun z7 e => ?_)
        refine wp_p (j := J_Y_paint) 1 (pc' := 81) (lv' := [(4, .int z3), (0, .ref v0), (1, .int v1), (2, .int v2), (3, .int v3)]) (st' := [.ref v0, .ref z7]) rfl ?_
        refine x_gQ e rfl rfl fd_12_124 rfl (fun z8 e => ?_)
        refine wp_p (j := J_Y_paint) 3 (pc' := 87) (lv' := [(4, .int z3), (0, .ref v0), (1, .int v1), (2, .int v2), (3, .int v3)]) (st' := [.int (v3 + 1), .ref z8, .ref z7]) rfl ?_
        refine x_aI e rfl rfl (fun z9 e => ?_)
        refine x_aI e rfl rfl (fun z10 e => ?_)
        refine wp_p (j := J_Y_paint) 1 (pc' := 96) (lv' := [(4, .int z3), (0, .ref v0), (1, .int v1), (2, .int v2), (3, .int v3)]) (st' := [.int z10]) rfl ?_
        exact wp_lv (lv' := [(0, .ref v0), (1, .int v1), (2, .int v2), (3, .int v3), (4, .int z3)]) rfl ⟨rfl, rfl, rfl, rfl, rfl, trivial⟩ (x_Y_paint_96 e c)
      · refine wp_p (j := J_Y_paint) 1 (pc' := 93) (lv' := [(4, .int z3), (0, .ref v0), (1, .int v1), (2, .int v2), (3, .int v3)]) (st' := [.ref v0]) rfl ?_
        refine x_gI e rfl rfl fd_12_117 rfl (fun z11 e => ?_)
        exact wp_lv (lv' := [(0, .ref v0), (1, .int v1), (2, .int v2), (3, .int v3), (4, .int z3)]) rfl ⟨rfl, rfl, rfl, rfl, rfl, trivial⟩ (x_Y_paint_96 e c)
    · refine wp_p (j := J_Y_paint) 2 (pc' := 136) (lv' := [(4, .int z3), (0, .ref v0), (1, .int v1), (2, .int v2), (3, .int v3)]) (st' := [.int z3, .ref v0]) rfl ?_
      refine x_cv1 (As := [.int z3]) (rest := []) Value.int e rfl rfl rfl rfl rfl rfl (fun h => d_Y_isBox h ⟨rfl, rfl⟩) (fun z12 e => ?_)
      refine z_ne e rfl (fun e => ?_) (fun e => ?_)
      · refine wp_p (j := J_Y_paint) 1 (pc' := 143) (lv' := [(4, .int z3), (0, .ref v0), (1, .int v1), (2, .int v2), (3, .int v3)]) (st' := [.ref v0]) rfl ?_
        refine x_gQ e rfl rfl fd_12_107 rfl (fun z13 e => ?_)
        refine wp_p (j := J_Y_paint) 1 (pc' := 148) (lv' := [(4, .int z3), (0, .ref v0), (1, .int v1), (2, .int v2), (3, .int v3)]) (st' := [.int z3, .ref z13]) rfl ?_
        refine x_aI e rfl rfl (fun z14 e => ?_)
        refine wp_p (j := J_Y_paint) 1 (pc' := 150) (lv' := [(4, .int z3), (0, .ref v0), (1, .int v1), (2, .int v2), (3, .int v3)]) (st' := [.int 4, .int z14]) rfl ?_
        refine x_ne e rfl (fun e => ?_) (fun e => ?_)
        · exact wp_lv (lv' := [(0, .ref v0), (1, .int v1), (2, .int v2), (3, .int v3), (4, .int z3)]) rfl ⟨rfl, rfl, rfl, rfl, rfl, trivial⟩ (x_Y_paint_153 e c)
        · exact wp_lv (lv' := [(0, .ref v0), (1, .int v1), (2, .int v2), (3, .int v3), (4, .int z3)]) rfl ⟨rfl, rfl, rfl, rfl, rfl, trivial⟩ (x_Y_paint_241 e c)
      · exact wp_lv (lv' := [(0, .ref v0), (1, .int v1), (2, .int v2), (3, .int v3), (4, .int z3)]) rfl ⟨rfl, rfl, rfl, rfl, rfl, trivial⟩ (x_Y_paint_153 e c)
  · have e := Option.some.inj e; subst e; exact wp_lv (lv' := []) rfl trivial c
noncomputable def L_Y_paint_38 (v0 : Nat) (v1 : Int32) (v2 : Int32) (v3 : Int32) (g : g_S) : Option (g_S) := it (fun s : Int32 × g_S => b_Y_paint_38 v0 v1 v2 s.1 s.2) (v3, g)
theorem l_Y_paint_38 {L : Nat} {xs : Nat → Int32} {Q : Option Value → ab_H → Prop} {v0 : Nat} {v1 : Int32} {v2 : Int32} {v3 : Int32} {g : g_S} {r : g_S} (e : L_Y_paint_38 v0 v1 v2 v3 g = some r) (c : cL_Y_paint_38 L xs Q v0 v1 v2 (.inr r)) : wp (ab_ext L xs) J_Y_paint 38 [(0, .ref v0), (1, .int v1), (2, .int v2), (3, .int v3)] [] (hp g) Q :=
  it_wp (P := fun s : Int32 × g_S => wp (ab_ext L xs) J_Y_paint 38 [(0, .ref v0), (1, .int v1), (2, .int v2), (3, .int s.1)] [] (hp s.2) Q) (E := fun r => cL_Y_paint_38 L xs Q v0 v1 v2 (.inr r)) (fun s out e c => y_Y_paint_38 e (by cases out <;> exact c)) e c
theorem L_Y_paint_38_eq (v0 : Nat) (v1 : Int32) (v2 : Int32) (v3 : Int32) (g : g_S) : L_Y_paint_38 v0 v1 v2 v3 g = itc (b_Y_paint_38 v0 v1 v2 v3 g) (fun s => L_Y_paint_38 v0 v1 v2 s.1 s.2) := it_eq2 (fun s : Int32 × g_S => b_Y_paint_38 v0 v1 v2 s.1 s.2) (v3, g)
noncomputable def M_Y_paint (v0 : Nat) (v1 : Int32) (v2 : Int32) (g : g_S) : Option (Int32 × g_S) :=
  (wI g 112 v0 146 0).bind fun g1 =>
  (wI g1 112 v0 147 (-1)).bind fun g2 =>
  if v2 < 0 then
    some (0, g2)
  else
    c2 (vc g2 112 v0 (M_Y_pictureHigh v0 g2)) fun z3 g4 =>
    if v2 < z3 then
      if v1 < 0 then
        some (0, g4)
      else
        (rI g4 112 v0 106).bind fun z5 =>
        if v1 < z5 then
          (L_Y_paint_38 v0 v1 v2 0 g4).bind <| fun g8 =>
          some (1, g8)
        else
          some (0, g4)
    else
      some (0, g4)
set_option maxRecDepth 20000 in
theorem d_Y_paint {L : Nat} {xs : Nat → Int32} {Q : Option Value → ab_H → Prop} {v0 : Nat} {v1 : Int32} {v2 : Int32} {g : g_S} {out : Int32 × g_S} (e : M_Y_paint v0 v1 v2 g = some out) (c : Q (some (.int out.1)) (hp out.2)) : mw (ab_ext L xs) J_Y_paint [.ref v0, .int v1, .int v2] (hp g) Q := by
  unfold M_Y_paint at e
  refine wp_p (j := J_Y_paint) 2 (pc' := 2) (lv' := [(0, .ref v0), (1, .int v1), (2, .int v2)]) (st' := [.int 0, .ref v0]) rfl ?_
  refine x_pI e rfl rfl fw_12_146 rfl (fun g1 e => ?_)
  refine wp_p (j := J_Y_paint) 2 (pc' := 7) (lv' := [(0, .ref v0), (1, .int v1), (2, .int v2)]) (st' := [.int (-1), .ref v0]) rfl ?_
  refine x_pI e rfl rfl fw_12_147 rfl (fun g2 e => ?_)
  refine wp_p (j := J_Y_paint) 1 (pc' := 11) (lv' := [(0, .ref v0), (1, .int v1), (2, .int v2)]) (st' := [.int v2]) rfl ?_
  refine z_lt e rfl (fun e => ?_) (fun e => ?_)
  · refine wp_p (j := J_Y_paint) 1 (pc' := 35) (lv' := [(0, .ref v0), (1, .int v1), (2, .int v2)]) (st' := [.int 0]) rfl ?_
    have e := Option.some.inj e; subst e; exact wp_iret (ty := .boolean) rfl rfl (by decide) c
  · refine wp_p (j := J_Y_paint) 2 (pc' := 16) (lv' := [(0, .ref v0), (1, .int v1), (2, .int v2)]) (st' := [.ref v0, .int v2]) rfl ?_
    refine x_cv2 (As := []) (rest := [.int v2]) Value.int e rfl rfl rfl rfl rfl rfl (fun h => d_Y_pictureHigh h ⟨rfl, rfl⟩) (fun z3 g4 e => ?_)
    refine x_ge e rfl (fun e => ?_) (fun e => ?_)
    · refine wp_p (j := J_Y_paint) 1 (pc' := 23) (lv' := [(0, .ref v0), (1, .int v1), (2, .int v2)]) (st' := [.int v1]) rfl ?_
      refine z_lt e rfl (fun e => ?_) (fun e => ?_)
      · refine wp_p (j := J_Y_paint) 1 (pc' := 35) (lv' := [(0, .ref v0), (1, .int v1), (2, .int v2)]) (st' := [.int 0]) rfl ?_
        have e := Option.some.inj e; subst e; exact wp_iret (ty := .boolean) rfl rfl (by decide) c
      · refine wp_p (j := J_Y_paint) 2 (pc' := 28) (lv' := [(0, .ref v0), (1, .int v1), (2, .int v2)]) (st' := [.ref v0, .int v1]) rfl ?_
        refine x_gI e rfl rfl fd_12_106 rfl (fun z5 e => ?_)
        refine x_lt e rfl (fun e => ?_) (fun e => ?_)
        · refine wp_p (j := J_Y_paint) 2 (pc' := 38) (lv' := [(3, .int 0), (0, .ref v0), (1, .int v1), (2, .int v2)]) (st' := []) rfl ?_
          obtain ⟨g8, h7, e⟩ := bd e
          refine wp_lv (lv' := [(0, .ref v0), (1, .int v1), (2, .int v2), (3, .int 0)]) rfl ⟨rfl, rfl, rfl, rfl, trivial⟩ ?_
          refine l_Y_paint_38 h7 ?_
          show wp (ab_ext L xs) J_Y_paint 309 [] [] (hp g8) Q
          refine wp_p (j := J_Y_paint) 1 (pc' := 310) (lv' := []) (st' := [.int 1]) rfl ?_
          have e := Option.some.inj e; subst e; exact wp_iret (ty := .boolean) rfl rfl (by decide) c
        · refine wp_p (j := J_Y_paint) 1 (pc' := 35) (lv' := [(0, .ref v0), (1, .int v1), (2, .int v2)]) (st' := [.int 0]) rfl ?_
          have e := Option.some.inj e; subst e; exact wp_iret (ty := .boolean) rfl rfl (by decide) c
    · refine wp_p (j := J_Y_paint) 1 (pc' := 35) (lv' := [(0, .ref v0), (1, .int v1), (2, .int v2)]) (st' := [.int 0]) rfl ?_
      have e := Option.some.inj e; subst e; exact wp_iret (ty := .boolean) rfl rfl (by decide) c
noncomputable def M_Y_point (v0 : Nat) (v1 : Int32) (v2 : Int32) (g : g_S) : Option (Int32 × g_S) :=
  c2 (vc g 112 v0 (M_Y_paint v0 v1 v2 g)) fun z1 g2 =>
  if z1 = 0 then
    some ((-1), g2)
  else
    (rI g2 112 v0 146).bind fun z3 =>
    some (z3, g2)
set_option maxRecDepth 20000 in
theorem d_Y_point {L : Nat} {xs : Nat → Int32} {Q : Option Value → ab_H → Prop} {v0 : Nat} {v1 : Int32} {v2 : Int32} {g : g_S} {out : Int32 × g_S} (e : M_Y_point v0 v1 v2 g = some out) (c : Q (some (.int out.1)) (hp out.2)) : mw (ab_ext L xs) J_Y_point [.ref v0, .int v1, .int v2] (hp g) Q := by
  unfold M_Y_point at e
  refine wp_p (j := J_Y_point) 3 (pc' := 3) (lv' := [(0, .ref v0), (1, .int v1), (2, .int v2)]) (st' := [.int v2, .int v1, .ref v0]) rfl ?_
  refine x_cv2 (As := [.int v1, .int v2]) (rest := []) Value.int e rfl rfl rfl rfl rfl rfl (fun h => d_Y_paint h ⟨rfl, rfl⟩) (fun z1 g2 e => ?_)
  refine z_eq e rfl (fun e => ?_) (fun e => ?_)
  · refine wp_p (j := J_Y_point) 1 (pc' := 17) (lv' := [(0, .ref v0), (1, .int v1), (2, .int v2)]) (st' := [.int (-1)]) rfl ?_
    have e := Option.some.inj e; subst e; exact wp_iret (ty := .int) rfl rfl rfl c
  · refine wp_p (j := J_Y_point) 1 (pc' := 10) (lv' := [(0, .ref v0), (1, .int v1), (2, .int v2)]) (st' := [.ref v0]) rfl ?_
    refine x_gI e rfl rfl fd_12_146 rfl (fun z3 e => ?_)
    refine wp_p (j := J_Y_point) 1 (pc' := 17) (lv' := [(0, .ref v0), (1, .int v1), (2, .int v2)]) (st' := [.int z3]) rfl ?_
    have e := Option.some.inj e; subst e; exact wp_iret (ty := .int) rfl rfl rfl c
noncomputable def M_Y_top (v0 : Nat) (v1 : Int32) (v2 : Int32) (g : g_S) : Option (Int32 × g_S) :=
  c2 (vc g 112 v0 (M_Y_paint v0 v1 v2 g)) fun z1 g2 =>
  if z1 = 0 then
    some ((-1), g2)
  else
    (rI g2 112 v0 147).bind fun z3 =>
    some (z3, g2)
set_option maxRecDepth 20000 in
theorem d_Y_top {L : Nat} {xs : Nat → Int32} {Q : Option Value → ab_H → Prop} {v0 : Nat} {v1 : Int32} {v2 : Int32} {g : g_S} {out : Int32 × g_S} (e : M_Y_top v0 v1 v2 g = some out) (c : Q (some (.int out.1)) (hp out.2)) : mw (ab_ext L xs) J_Y_top [.ref v0, .int v1, .int v2] (hp g) Q := by
  unfold M_Y_top at e
  refine wp_p (j := J_Y_top) 3 (pc' := 3) (lv' := [(0, .ref v0), (1, .int v1), (2, .int v2)]) (st' := [.int v2, .int v1, .ref v0]) rfl ?_
  refine x_cv2 (As := [.int v1, .int v2]) (rest := []) Value.int e rfl rfl rfl rfl rfl rfl (fun h => d_Y_paint h ⟨rfl, rfl⟩) (fun z1 g2 e => ?_)
  refine z_eq e rfl (fun e => ?_) (fun e => ?_)
  · refine wp_p (j := J_Y_top) 1 (pc' := 17) (lv' := [(0, .ref v0), (1, .int v1), (2, .int v2)]) (st' := [.int (-1)]) rfl ?_
    have e := Option.some.inj e; subst e; exact wp_iret (ty := .int) rfl rfl rfl c
  · refine wp_p (j := J_Y_top) 1 (pc' := 10) (lv' := [(0, .ref v0), (1, .int v1), (2, .int v2)]) (st' := [.ref v0]) rfl ?_
    refine x_gI e rfl rfl fd_12_147 rfl (fun z3 e => ?_)
    refine wp_p (j := J_Y_top) 1 (pc' := 17) (lv' := [(0, .ref v0), (1, .int v1), (2, .int v2)]) (st' := [.int z3]) rfl ?_
    have e := Option.some.inj e; subst e; exact wp_iret (ty := .int) rfl rfl rfl c
def cL_Y_wayUp_7 (L : Nat) (xs : Nat → Int32) (Q : Option Value → ab_H → Prop) (v0 : Nat) (out : (Int32 × g_S) ⊕ (g_S)) : Prop := match out with
  | .inl s => wp (ab_ext L xs) J_Y_wayUp 7 [(0, .ref v0), (2, .int s.1)] [] (hp s.2) Q
  | .inr s => wp (ab_ext L xs) J_Y_wayUp 27 [] [] (hp s) Q
noncomputable def b_Y_wayUp_7 (v0 : Nat) (v2 : Int32) (g : g_S) : Option ((Int32 × g_S) ⊕ (g_S)) :=
  if v2 = (-1) then
    some (.inr g)
  else
    (vc g 112 v0 (M_Y_onWay v0 v2 g)).bind fun g1 =>
    (rQ g1 112 v0 49).bind fun z2 =>
    (aI g1 0 z2 v2).bind fun z3 =>
    some (.inl (z3, g1))
set_option maxRecDepth 20000 in
theorem y_Y_wayUp_7 {L : Nat} {xs : Nat → Int32} {Q : Option Value → ab_H → Prop} {v0 : Nat} {v2 : Int32} {g : g_S} {out : (Int32 × g_S) ⊕ (g_S)} (e : b_Y_wayUp_7 v0 v2 g = some out) (c : cL_Y_wayUp_7 L xs Q v0 out) : wp (ab_ext L xs) J_Y_wayUp 7 [(0, .ref v0), (2, .int v2)] [] (hp g) Q := by
  unfold b_Y_wayUp_7 at e
  refine wp_p (j := J_Y_wayUp) 2 (pc' := 9) (lv' := [(0, .ref v0), (2, .int v2)]) (st' := [.int (-1), .int v2]) rfl ?_
  refine x_eq e rfl (fun e => ?_) (fun e => ?_)
  · have e := Option.some.inj e; subst e; exact wp_lv (lv' := []) rfl trivial c
  · refine wp_p (j := J_Y_wayUp) 2 (pc' := 14) (lv' := [(0, .ref v0), (2, .int v2)]) (st' := [.int v2, .ref v0]) rfl ?_
    refine x_cv0 (As := [.int v2]) (rest := []) e rfl rfl rfl rfl rfl rfl (fun h => d_Y_onWay h ⟨rfl, rfl⟩) (fun g1 e => ?_)
    refine wp_p (j := J_Y_wayUp) 1 (pc' := 18) (lv' := [(0, .ref v0), (2, .int v2)]) (st' := [.ref v0]) rfl ?_
    refine x_gQ e rfl rfl fd_12_49 rfl (fun z2 e => ?_)
    refine wp_p (j := J_Y_wayUp) 1 (pc' := 22) (lv' := [(0, .ref v0), (2, .int v2)]) (st' := [.int v2, .ref z2]) rfl ?_
    refine x_aI e rfl rfl (fun z3 e => ?_)
    refine wp_p (j := J_Y_wayUp) 2 (pc' := 7) (lv' := [(2, .int z3), (0, .ref v0)]) (st' := []) rfl ?_
    have e := Option.some.inj e; subst e; exact wp_lv (lv' := [(0, .ref v0), (2, .int z3)]) rfl ⟨rfl, rfl, trivial⟩ c
noncomputable def L_Y_wayUp_7 (v0 : Nat) (v2 : Int32) (g : g_S) : Option (g_S) := it (fun s : Int32 × g_S => b_Y_wayUp_7 v0 s.1 s.2) (v2, g)
theorem l_Y_wayUp_7 {L : Nat} {xs : Nat → Int32} {Q : Option Value → ab_H → Prop} {v0 : Nat} {v2 : Int32} {g : g_S} {r : g_S} (e : L_Y_wayUp_7 v0 v2 g = some r) (c : cL_Y_wayUp_7 L xs Q v0 (.inr r)) : wp (ab_ext L xs) J_Y_wayUp 7 [(0, .ref v0), (2, .int v2)] [] (hp g) Q :=
  it_wp (P := fun s : Int32 × g_S => wp (ab_ext L xs) J_Y_wayUp 7 [(0, .ref v0), (2, .int s.1)] [] (hp s.2) Q) (E := fun r => cL_Y_wayUp_7 L xs Q v0 (.inr r)) (fun s out e c => y_Y_wayUp_7 e (by cases out <;> exact c)) e c
theorem L_Y_wayUp_7_eq (v0 : Nat) (v2 : Int32) (g : g_S) : L_Y_wayUp_7 v0 v2 g = itc (b_Y_wayUp_7 v0 v2 g) (fun s => L_Y_wayUp_7 v0 s.1 s.2) := it_eq2 (fun s : Int32 × g_S => b_Y_wayUp_7 v0 s.1 s.2) (v2, g)
noncomputable def M_Y_wayUp (v0 : Nat) (v1 : Int32) (g : g_S) : Option g_S :=
  (wI g 112 v0 181 0).bind fun g1 =>
  (L_Y_wayUp_7 v0 v1 g1).bind <| fun g4 =>
  some g4
set_option maxRecDepth 20000 in
theorem d_Y_wayUp {L : Nat} {xs : Nat → Int32} {Q : Option Value → ab_H → Prop} {v0 : Nat} {v1 : Int32} {g : g_S} {out : g_S} (e : M_Y_wayUp v0 v1 g = some out) (c : Q none (hp out)) : mw (ab_ext L xs) J_Y_wayUp [.ref v0, .int v1] (hp g) Q := by
  unfold M_Y_wayUp at e
  refine wp_p (j := J_Y_wayUp) 2 (pc' := 2) (lv' := [(0, .ref v0), (1, .int v1)]) (st' := [.int 0, .ref v0]) rfl ?_
  refine x_pI e rfl rfl fw_12_181 rfl (fun g1 e => ?_)
  refine wp_p (j := J_Y_wayUp) 2 (pc' := 7) (lv' := [(2, .int v1), (0, .ref v0), (1, .int v1)]) (st' := []) rfl ?_
  obtain ⟨g4, h3, e⟩ := bd e
  refine wp_lv (lv' := [(0, .ref v0), (2, .int v1)]) rfl ⟨rfl, rfl, trivial⟩ ?_
  refine l_Y_wayUp_7 h3 ?_
  show wp (ab_ext L xs) J_Y_wayUp 27 [] [] (hp g4) Q
  have e := Option.some.inj e; subst e; exact wp_vret rfl rfl c
def cL_Y_goesUp_7 (L : Nat) (xs : Nat → Int32) (Q : Option Value → ab_H → Prop) (v0 : Nat) (v1 : Int64) (out : (Int32 × g_S) ⊕ (g_S)) : Prop := match out with
  | .inl s => wp (ab_ext L xs) J_Y_goesUp 7 [(0, .ref v0), (1, .long v1), (3, .int s.1)] [] (hp s.2) Q
  | .inr s => wp (ab_ext L xs) J_Y_goesUp 56 [(0, .ref v0)] [] (hp s) Q
noncomputable def b_Y_goesUp_7 (v0 : Nat) (v1 : Int64) (v3 : Int32) (g : g_S) : Option ((Int32 × g_S) ⊕ (g_S)) :=
  (rI g 112 v0 181).bind fun z1 =>
  if v3 < z1 then
    (rI g 112 v0 163).bind fun z2 =>
    if z2 = 0 then
      (rI g 112 v0 152).bind fun z3 =>
      if z3 = 0 then
        (rI g 112 v0 154).bind fun z4 =>
        if z4 = 0 then
          (vc g 112 v0 (M_Y_isThere v0 v3 g)).bind fun z5 =>
          if z5 = 0 then
            some (.inl (v3 + 1, g))
          else
            (vc g 112 v0 (M_Y_listen v0 v3 v1 g)).bind fun g6 =>
            some (.inl (v3 + 1, g6))
        else
          some (.inr g)
      else
        some (.inr g)
    else
      some (.inr g)
  else
    some (.inr g)
set_option maxRecDepth 20000 in
theorem y_Y_goesUp_7 {L : Nat} {xs : Nat → Int32} {Q : Option Value → ab_H → Prop} {v0 : Nat} {v1 : Int64} {v3 : Int32} {g : g_S} {out : (Int32 × g_S) ⊕ (g_S)} (e : b_Y_goesUp_7 v0 v1 v3 g = some out) (c : cL_Y_goesUp_7 L xs Q v0 v1 out) : wp (ab_ext L xs) J_Y_goesUp 7 [(0, .ref v0), (1, .long v1), (3, .int v3)] [] (hp g) Q := by
  unfold b_Y_goesUp_7 at e
  refine wp_p (j := J_Y_goesUp) 2 (pc' := 9) (lv' := [(0, .ref v0), (1, .long v1), (3, .int v3)]) (st' := [.ref v0, .int v3]) rfl ?_
  refine x_gI e rfl rfl fd_12_181 rfl (fun z1 e => ?_)
  refine x_ge e rfl (fun e => ?_) (fun e => ?_)
  · refine wp_p (j := J_Y_goesUp) 1 (pc' := 16) (lv' := [(0, .ref v0), (1, .long v1), (3, .int v3)]) (st' := [.ref v0]) rfl ?_
    refine x_gI e rfl rfl fd_12_163 rfl (fun z2 e => ?_)
    refine z_ne e rfl (fun e => ?_) (fun e => ?_)
    · refine wp_p (j := J_Y_goesUp) 1 (pc' := 23) (lv' := [(0, .ref v0), (1, .long v1), (3, .int v3)]) (st' := [.ref v0]) rfl ?_
      refine x_gI e rfl rfl fd_12_152 rfl (fun z3 e => ?_)
      refine z_ne e rfl (fun e => ?_) (fun e => ?_)
      · refine wp_p (j := J_Y_goesUp) 1 (pc' := 30) (lv' := [(0, .ref v0), (1, .long v1), (3, .int v3)]) (st' := [.ref v0]) rfl ?_
        refine x_gI e rfl rfl fd_12_154 rfl (fun z4 e => ?_)
        refine z_ne e rfl (fun e => ?_) (fun e => ?_)
        · refine wp_p (j := J_Y_goesUp) 2 (pc' := 38) (lv' := [(0, .ref v0), (1, .long v1), (3, .int v3)]) (st' := [.int v3, .ref v0]) rfl ?_
          refine x_cv1 (As := [.int v3]) (rest := []) Value.int e rfl rfl rfl rfl rfl rfl (fun h => d_Y_isThere h ⟨rfl, rfl⟩) (fun z5 e => ?_)
          refine z_eq e rfl (fun e => ?_) (fun e => ?_)
          · refine wp_p (j := J_Y_goesUp) 2 (pc' := 7) (lv' := [(3, .int (v3 + 1)), (0, .ref v0), (1, .long v1)]) (st' := []) rfl ?_
            have e := Option.some.inj e; subst e; exact wp_lv (lv' := [(0, .ref v0), (1, .long v1), (3, .int (v3 + 1))]) rfl ⟨rfl, rfl, rfl, trivial⟩ c
          · refine wp_p (j := J_Y_goesUp) 3 (pc' := 47) (lv' := [(0, .ref v0), (1, .long v1), (3, .int v3)]) (st' := [.long v1, .int v3, .ref v0]) rfl ?_
            refine x_cv0 (As := [.int v3, .long v1]) (rest := []) e rfl rfl rfl rfl rfl rfl (fun h => d_Y_listen h ⟨rfl, rfl⟩) (fun g6 e => ?_)
            refine wp_p (j := J_Y_goesUp) 2 (pc' := 7) (lv' := [(3, .int (v3 + 1)), (0, .ref v0), (1, .long v1)]) (st' := []) rfl ?_
            have e := Option.some.inj e; subst e; exact wp_lv (lv' := [(0, .ref v0), (1, .long v1), (3, .int (v3 + 1))]) rfl ⟨rfl, rfl, rfl, trivial⟩ c
        · have e := Option.some.inj e; subst e; exact wp_lv (lv' := [(0, .ref v0)]) rfl ⟨rfl, trivial⟩ c
      · have e := Option.some.inj e; subst e; exact wp_lv (lv' := [(0, .ref v0)]) rfl ⟨rfl, trivial⟩ c
    · have e := Option.some.inj e; subst e; exact wp_lv (lv' := [(0, .ref v0)]) rfl ⟨rfl, trivial⟩ c
  · have e := Option.some.inj e; subst e; exact wp_lv (lv' := [(0, .ref v0)]) rfl ⟨rfl, trivial⟩ c
noncomputable def L_Y_goesUp_7 (v0 : Nat) (v1 : Int64) (v3 : Int32) (g : g_S) : Option (g_S) := it (fun s : Int32 × g_S => b_Y_goesUp_7 v0 v1 s.1 s.2) (v3, g)
theorem l_Y_goesUp_7 {L : Nat} {xs : Nat → Int32} {Q : Option Value → ab_H → Prop} {v0 : Nat} {v1 : Int64} {v3 : Int32} {g : g_S} {r : g_S} (e : L_Y_goesUp_7 v0 v1 v3 g = some r) (c : cL_Y_goesUp_7 L xs Q v0 v1 (.inr r)) : wp (ab_ext L xs) J_Y_goesUp 7 [(0, .ref v0), (1, .long v1), (3, .int v3)] [] (hp g) Q :=
  it_wp (P := fun s : Int32 × g_S => wp (ab_ext L xs) J_Y_goesUp 7 [(0, .ref v0), (1, .long v1), (3, .int s.1)] [] (hp s.2) Q) (E := fun r => cL_Y_goesUp_7 L xs Q v0 v1 (.inr r)) (fun s out e c => y_Y_goesUp_7 e (by cases out <;> exact c)) e c
theorem L_Y_goesUp_7_eq (v0 : Nat) (v1 : Int64) (v3 : Int32) (g : g_S) : L_Y_goesUp_7 v0 v1 v3 g = itc (b_Y_goesUp_7 v0 v1 v3 g) (fun s => L_Y_goesUp_7 v0 v1 s.1 s.2) := it_eq2 (fun s : Int32 × g_S => b_Y_goesUp_7 v0 v1 s.1 s.2) (v3, g)
noncomputable def k_Y_goesUp_56 (v0 : Nat) (g : g_S) : Option (Int32 × g_S) :=
  (rI g 112 v0 163).bind fun z1 =>
  if z1 = 0 then
    (rI g 112 v0 152).bind fun z2 =>
    if z2 = 0 then
      (rI g 112 v0 154).bind fun z3 =>
      if z3 = 0 then
        some (1, g)
      else
        some (0, g)
    else
      some (0, g)
  else
    some (0, g)
set_option maxRecDepth 20000 in
theorem x_Y_goesUp_56 {L : Nat} {xs : Nat → Int32} {Q : Option Value → ab_H → Prop} {v0 : Nat} {g : g_S} {out : Int32 × g_S} (e : k_Y_goesUp_56 v0 g = some out) (c : Q (some (.int out.1)) (hp out.2)) : wp (ab_ext L xs) J_Y_goesUp 56 [(0, .ref v0)] [] (hp g) Q := by
  unfold k_Y_goesUp_56 at e
  refine wp_p (j := J_Y_goesUp) 1 (pc' := 57) (lv' := [(0, .ref v0)]) (st' := [.ref v0]) rfl ?_
  refine x_gI e rfl rfl fd_12_163 rfl (fun z1 e => ?_)
  refine z_ne e rfl (fun e => ?_) (fun e => ?_)
  · refine wp_p (j := J_Y_goesUp) 1 (pc' := 64) (lv' := [(0, .ref v0)]) (st' := [.ref v0]) rfl ?_
    refine x_gI e rfl rfl fd_12_152 rfl (fun z2 e => ?_)
    refine z_ne e rfl (fun e => ?_) (fun e => ?_)
    · refine wp_p (j := J_Y_goesUp) 1 (pc' := 71) (lv' := [(0, .ref v0)]) (st' := [.ref v0]) rfl ?_
      refine x_gI e rfl rfl fd_12_154 rfl (fun z3 e => ?_)
      refine z_ne e rfl (fun e => ?_) (fun e => ?_)
      · refine wp_p (j := J_Y_goesUp) 2 (pc' := 82) (lv' := [(0, .ref v0)]) (st' := [.int 1]) rfl ?_
        have e := Option.some.inj e; subst e; exact wp_iret (ty := .boolean) rfl rfl (by decide) c
      · refine wp_p (j := J_Y_goesUp) 1 (pc' := 82) (lv' := [(0, .ref v0)]) (st' := [.int 0]) rfl ?_
        have e := Option.some.inj e; subst e; exact wp_iret (ty := .boolean) rfl rfl (by decide) c
    · refine wp_p (j := J_Y_goesUp) 1 (pc' := 82) (lv' := [(0, .ref v0)]) (st' := [.int 0]) rfl ?_
      have e := Option.some.inj e; subst e; exact wp_iret (ty := .boolean) rfl rfl (by decide) c
  · refine wp_p (j := J_Y_goesUp) 1 (pc' := 82) (lv' := [(0, .ref v0)]) (st' := [.int 0]) rfl ?_
    have e := Option.some.inj e; subst e; exact wp_iret (ty := .boolean) rfl rfl (by decide) c
noncomputable def M_Y_goesUp (v0 : Nat) (v1 : Int64) (g : g_S) : Option (Int32 × g_S) :=
  (wZ g 112 v0 163 0).bind fun g1 =>
  (L_Y_goesUp_7 v0 v1 0 g1).bind <| fun g4 =>
  k_Y_goesUp_56 v0 g4
set_option maxRecDepth 20000 in
theorem d_Y_goesUp {L : Nat} {xs : Nat → Int32} {Q : Option Value → ab_H → Prop} {v0 : Nat} {v1 : Int64} {g : g_S} {out : Int32 × g_S} (e : M_Y_goesUp v0 v1 g = some out) (c : Q (some (.int out.1)) (hp out.2)) : mw (ab_ext L xs) J_Y_goesUp [.ref v0, .long v1] (hp g) Q := by
  unfold M_Y_goesUp at e
  refine wp_p (j := J_Y_goesUp) 2 (pc' := 2) (lv' := [(0, .ref v0), (1, .long v1)]) (st' := [.int 0, .ref v0]) rfl ?_
  refine x_pZ e rfl rfl fw_12_163 rfl (fun g1 e => ?_)
  refine wp_p (j := J_Y_goesUp) 2 (pc' := 7) (lv' := [(3, .int 0), (0, .ref v0), (1, .long v1)]) (st' := []) rfl ?_
  obtain ⟨g4, h3, e⟩ := bd e
  refine wp_lv (lv' := [(0, .ref v0), (1, .long v1), (3, .int 0)]) rfl ⟨rfl, rfl, rfl, trivial⟩ ?_
  refine l_Y_goesUp_7 h3 ?_
  show wp (ab_ext L xs) J_Y_goesUp 56 [(0, .ref v0)] [] (hp g4) Q
  exact wp_lv (lv' := [(0, .ref v0)]) rfl ⟨rfl, trivial⟩ (x_Y_goesUp_56 e c)
def cL_Y_formOf_2 (L : Nat) (xs : Nat → Int32) (Q : Option Value → ab_H → Prop) (v0 : Nat) (g : g_S) (out : (Int32) ⊕ (Int32)) : Prop := match out with
  | .inl s => wp (ab_ext L xs) J_Y_formOf 2 [(0, .ref v0), (2, .int s)] [] (hp g) Q
  | .inr s => wp (ab_ext L xs) J_Y_formOf 27 [(2, .int s)] [] (hp g) Q
noncomputable def b_Y_formOf_2 (v0 : Nat) (v2 : Int32) (g : g_S) : Option ((Int32) ⊕ (Int32)) :=
  if v2 = (-1) then
    some (.inr v2)
  else
    (rQ g 112 v0 46).bind fun z1 =>
    (aI g 0 z1 v2).bind fun z2 =>
    if z2 = 5 then
      some (.inr v2)
    else
      (rQ g 112 v0 49).bind fun z3 =>
      (aI g 0 z3 v2).bind fun z4 =>
      some (.inl z4)
set_option maxRecDepth 20000 in
theorem y_Y_formOf_2 {L : Nat} {xs : Nat → Int32} {Q : Option Value → ab_H → Prop} {v0 : Nat} {v2 : Int32} {g : g_S} {out : (Int32) ⊕ (Int32)} (e : b_Y_formOf_2 v0 v2 g = some out) (c : cL_Y_formOf_2 L xs Q v0 g out) : wp (ab_ext L xs) J_Y_formOf 2 [(0, .ref v0), (2, .int v2)] [] (hp g) Q := by
  unfold b_Y_formOf_2 at e
  refine wp_p (j := J_Y_formOf) 2 (pc' := 4) (lv' := [(0, .ref v0), (2, .int v2)]) (st' := [.int (-1), .int v2]) rfl ?_
  refine x_eq e rfl (fun e => ?_) (fun e => ?_)
  · have e := Option.some.inj e; subst e; exact wp_lv (lv' := [(2, .int v2)]) rfl ⟨rfl, trivial⟩ c
  · refine wp_p (j := J_Y_formOf) 1 (pc' := 8) (lv' := [(0, .ref v0), (2, .int v2)]) (st' := [.ref v0]) rfl ?_
    refine x_gQ e rfl rfl fd_12_46 rfl (fun z1 e => ?_)
    refine wp_p (j := J_Y_formOf) 1 (pc' := 12) (lv' := [(0, .ref v0), (2, .int v2)]) (st' := [.int v2, .ref z1]) rfl ?_
    refine x_aI e rfl rfl (fun z2 e => ?_)
    refine wp_p (j := J_Y_formOf) 1 (pc' := 14) (lv' := [(0, .ref v0), (2, .int v2)]) (st' := [.int 5, .int z2]) rfl ?_
    refine x_eq e rfl (fun e => ?_) (fun e => ?_)
    · have e := Option.some.inj e; subst e; exact wp_lv (lv' := [(2, .int v2)]) rfl ⟨rfl, trivial⟩ c
    · refine wp_p (j := J_Y_formOf) 1 (pc' := 18) (lv' := [(0, .ref v0), (2, .int v2)]) (st' := [.ref v0]) rfl ?_
      refine x_gQ e rfl rfl fd_12_49 rfl (fun z3 e => ?_)
      refine wp_p (j := J_Y_formOf) 1 (pc' := 22) (lv' := [(0, .ref v0), (2, .int v2)]) (st' := [.int v2, .ref z3]) rfl ?_
      refine x_aI e rfl rfl (fun z4 e => ?_)
      refine wp_p (j := J_Y_formOf) 2 (pc' := 2) (lv' := [(2, .int z4), (0, .ref v0)]) (st' := []) rfl ?_
      have e := Option.some.inj e; subst e; exact wp_lv (lv' := [(0, .ref v0), (2, .int z4)]) rfl ⟨rfl, rfl, trivial⟩ c
noncomputable def L_Y_formOf_2 (v0 : Nat) (v2 : Int32) (g : g_S) : Option (Int32) := it (fun s : Int32 => b_Y_formOf_2 v0 s g) (v2)
theorem l_Y_formOf_2 {L : Nat} {xs : Nat → Int32} {Q : Option Value → ab_H → Prop} {v0 : Nat} {v2 : Int32} {g : g_S} {r : Int32} (e : L_Y_formOf_2 v0 v2 g = some r) (c : cL_Y_formOf_2 L xs Q v0 g (.inr r)) : wp (ab_ext L xs) J_Y_formOf 2 [(0, .ref v0), (2, .int v2)] [] (hp g) Q :=
  it_wp (P := fun s : Int32 => wp (ab_ext L xs) J_Y_formOf 2 [(0, .ref v0), (2, .int s)] [] (hp g) Q) (E := fun r => cL_Y_formOf_2 L xs Q v0 g (.inr r)) (fun s out e c => y_Y_formOf_2 e (by cases out <;> exact c)) e c
theorem L_Y_formOf_2_eq (v0 : Nat) (v2 : Int32) (g : g_S) : L_Y_formOf_2 v0 v2 g = itc (b_Y_formOf_2 v0 v2 g) (fun s => L_Y_formOf_2 v0 s g) := it_eq2 (fun s : Int32 => b_Y_formOf_2 v0 s g) (v2)
noncomputable def M_Y_formOf (v0 : Nat) (v1 : Int32) (g : g_S) : Option Int32 :=
  (L_Y_formOf_2 v0 v1 g).bind <| fun z3 =>
  some z3
set_option maxRecDepth 20000 in
theorem d_Y_formOf {L : Nat} {xs : Nat → Int32} {Q : Option Value → ab_H → Prop} {v0 : Nat} {v1 : Int32} {g : g_S} {out : Int32} (e : M_Y_formOf v0 v1 g = some out) (c : Q (some (.int out)) (hp g)) : mw (ab_ext L xs) J_Y_formOf [.ref v0, .int v1] (hp g) Q := by
  unfold M_Y_formOf at e
  refine wp_p (j := J_Y_formOf) 2 (pc' := 2) (lv' := [(2, .int v1), (0, .ref v0), (1, .int v1)]) (st' := []) rfl ?_
  obtain ⟨z3, h2, e⟩ := bd e
  refine wp_lv (lv' := [(0, .ref v0), (2, .int v1)]) rfl ⟨rfl, rfl, trivial⟩ ?_
  refine l_Y_formOf_2 h2 ?_
  show wp (ab_ext L xs) J_Y_formOf 27 [(2, .int z3)] [] (hp g) Q
  refine wp_p (j := J_Y_formOf) 1 (pc' := 28) (lv' := [(2, .int z3)]) (st' := [.int z3]) rfl ?_
  have e := Option.some.inj e; subst e; exact wp_iret (ty := .int) rfl rfl rfl c
noncomputable def M_Y_ask (v0 : Nat) (v1 : Int32) (g : g_S) : Option g_S :=
  (rQ g 112 v0 182).bind fun z1 =>
  (rI g 112 v0 183).bind fun z2 =>
  (sB g z1 z2 ((Int32.toInt8 v1).toInt32)).bind fun g3 =>
  (rI g3 112 v0 183).bind fun z4 =>
  (wI g3 112 v0 183 (z4 + 1)).bind fun g5 =>
  some g5
set_option maxRecDepth 20000 in
theorem d_Y_ask {L : Nat} {xs : Nat → Int32} {Q : Option Value → ab_H → Prop} {v0 : Nat} {v1 : Int32} {g : g_S} {out : g_S} (e : M_Y_ask v0 v1 g = some out) (c : Q none (hp out)) : mw (ab_ext L xs) J_Y_ask [.ref v0, .int v1] (hp g) Q := by
  unfold M_Y_ask at e
  refine wp_p (j := J_Y_ask) 1 (pc' := 1) (lv' := [(0, .ref v0), (1, .int v1)]) (st' := [.ref v0]) rfl ?_
  refine x_gQ e rfl rfl fd_12_182 rfl (fun z1 e => ?_)
  refine wp_p (j := J_Y_ask) 1 (pc' := 5) (lv' := [(0, .ref v0), (1, .int v1)]) (st' := [.ref v0, .ref z1]) rfl ?_
  refine x_gI e rfl rfl fd_12_183 rfl (fun z2 e => ?_)
  refine wp_p (j := J_Y_ask) 2 (pc' := 10) (lv' := [(0, .ref v0), (1, .int v1)]) (st' := [.int ((Int32.toInt8 v1).toInt32), .int z2, .ref z1]) rfl ?_
  refine x_sB e rfl rfl (fun g3 e => ?_)
  refine wp_p (j := J_Y_ask) 2 (pc' := 13) (lv' := [(0, .ref v0), (1, .int v1)]) (st' := [.ref v0, .ref v0]) rfl ?_
  refine x_gI e rfl rfl fd_12_183 rfl (fun z4 e => ?_)
  refine wp_p (j := J_Y_ask) 2 (pc' := 18) (lv' := [(0, .ref v0), (1, .int v1)]) (st' := [.int (z4 + 1), .ref v0]) rfl ?_
  refine x_pI e rfl rfl fw_12_183 rfl (fun g5 e => ?_)
  have e := Option.some.inj e; subst e; exact wp_vret rfl rfl c
def cL_Y_sendForm_332 (L : Nat) (xs : Nat → Int32) (Q : Option Value → ab_H → Prop) (v0 : Nat) (out : (Int32 × g_S) ⊕ (g_S)) : Prop := match out with
  | .inl s => wp (ab_ext L xs) J_Y_sendForm 332 [(0, .ref v0), (3, .int s.1)] [] (hp s.2) Q
  | .inr s => wp (ab_ext L xs) J_Y_sendForm 363 [(0, .ref v0)] [] (hp s) Q
noncomputable def b_Y_sendForm_332 (v0 : Nat) (v3 : Int32) (g : g_S) : Option ((Int32 × g_S) ⊕ (g_S)) :=
  (rI g 112 v0 183).bind fun z1 =>
  if v3 < z1 then
    if v3 < 40 then
      (rQ g 112 v0 182).bind fun z2 =>
      (aI g 1 z2 v3).bind fun z3 =>
      (vc g 112 v0 (M_Y_put v0 0 z3 g)).bind fun g4 =>
      some (.inl (v3 + 1, g4))
    else
      some (.inr g)
  else
    some (.inr g)
set_option maxRecDepth 20000 in
theorem y_Y_sendForm_332 {L : Nat} {xs : Nat → Int32} {Q : Option Value → ab_H → Prop} {v0 : Nat} {v3 : Int32} {g : g_S} {out : (Int32 × g_S) ⊕ (g_S)} (e : b_Y_sendForm_332 v0 v3 g = some out) (c : cL_Y_sendForm_332 L xs Q v0 out) : wp (ab_ext L xs) J_Y_sendForm 332 [(0, .ref v0), (3, .int v3)] [] (hp g) Q := by
  unfold b_Y_sendForm_332 at e
  refine wp_p (j := J_Y_sendForm) 2 (pc' := 334) (lv' := [(0, .ref v0), (3, .int v3)]) (st' := [.ref v0, .int v3]) rfl ?_
  refine x_gI e rfl rfl fd_12_183 rfl (fun z1 e => ?_)
  refine x_ge e rfl (fun e => ?_) (fun e => ?_)
  · refine wp_p (j := J_Y_sendForm) 2 (pc' := 343) (lv' := [(0, .ref v0), (3, .int v3)]) (st' := [.int 40, .int v3]) rfl ?_
    refine x_ge e rfl (fun e => ?_) (fun e => ?_)
    · refine wp_p (j := J_Y_sendForm) 3 (pc' := 349) (lv' := [(0, .ref v0), (3, .int v3)]) (st' := [.ref v0, .int 0, .ref v0]) rfl ?_
      refine x_gQ e rfl rfl fd_12_182 rfl (fun z2 e => ?_)
      refine wp_p (j := J_Y_sendForm) 1 (pc' := 353) (lv' := [(0, .ref v0), (3, .int v3)]) (st' := [.int v3, .ref z2, .int 0, .ref v0]) rfl ?_
      refine x_aB e rfl (.inl rfl) rfl (fun z3 e => ?_)
      refine x_cv0 (As := [.int 0, .int z3]) (rest := []) e rfl rfl rfl rfl rfl rfl (fun h => d_Y_put h ⟨rfl, rfl⟩) (fun g4 e => ?_)
      refine wp_p (j := J_Y_sendForm) 2 (pc' := 332) (lv' := [(3, .int (v3 + 1)), (0, .ref v0)]) (st' := []) rfl ?_
      have e := Option.some.inj e; subst e; exact wp_lv (lv' := [(0, .ref v0), (3, .int (v3 + 1))]) rfl ⟨rfl, rfl, trivial⟩ c
    · have e := Option.some.inj e; subst e; exact wp_lv (lv' := [(0, .ref v0)]) rfl ⟨rfl, trivial⟩ c
  · have e := Option.some.inj e; subst e; exact wp_lv (lv' := [(0, .ref v0)]) rfl ⟨rfl, trivial⟩ c
noncomputable def L_Y_sendForm_332 (v0 : Nat) (v3 : Int32) (g : g_S) : Option (g_S) := it (fun s : Int32 × g_S => b_Y_sendForm_332 v0 s.1 s.2) (v3, g)
theorem l_Y_sendForm_332 {L : Nat} {xs : Nat → Int32} {Q : Option Value → ab_H → Prop} {v0 : Nat} {v3 : Int32} {g : g_S} {r : g_S} (e : L_Y_sendForm_332 v0 v3 g = some r) (c : cL_Y_sendForm_332 L xs Q v0 (.inr r)) : wp (ab_ext L xs) J_Y_sendForm 332 [(0, .ref v0), (3, .int v3)] [] (hp g) Q :=
  it_wp (P := fun s : Int32 × g_S => wp (ab_ext L xs) J_Y_sendForm 332 [(0, .ref v0), (3, .int s.1)] [] (hp s.2) Q) (E := fun r => cL_Y_sendForm_332 L xs Q v0 (.inr r)) (fun s out e c => y_Y_sendForm_332 e (by cases out <;> exact c)) e c
theorem L_Y_sendForm_332_eq (v0 : Nat) (v3 : Int32) (g : g_S) : L_Y_sendForm_332 v0 v3 g = itc (b_Y_sendForm_332 v0 v3 g) (fun s => L_Y_sendForm_332 v0 s.1 s.2) := it_eq2 (fun s : Int32 × g_S => b_Y_sendForm_332 v0 s.1 s.2) (v3, g)
def cL_Y_sendForm_128 (L : Nat) (xs : Nat → Int32) (Q : Option Value → ab_H → Prop) (v0 : Nat) (v1 : Int32) (v2 : Int32) (v3 : Int32) (v4 : Int32) (out : (Int32 × g_S) ⊕ (g_S)) : Prop := match out with
  | .inl s => wp (ab_ext L xs) J_Y_sendForm 128 [(0, .ref v0), (1, .int v1), (2, .int v2), (3, .int v3), (4, .int v4), (5, .int s.1)] [] (hp s.2) Q
  | .inr s => wp (ab_ext L xs) J_Y_sendForm 161 [(0, .ref v0), (1, .int v1), (2, .int v2), (4, .int v4)] [] (hp s) Q
noncomputable def b_Y_sendForm_128 (v0 : Nat) (v1 : Int32) (v2 : Int32) (v3 : Int32) (v4 : Int32) (v5 : Int32) (g : g_S) : Option ((Int32 × g_S) ⊕ (g_S)) :=
  (rQ g 112 v0 60).bind fun z1 =>
  (aI g 0 z1 v3).bind fun z2 =>
  if v5 < z2 then
    (rQ g 112 v0 59).bind fun z3 =>
    (aI g 1 z3 ((60 * v3) + v5)).bind fun z4 =>
    (vc g 112 v0 (M_Y_ask v0 z4 g)).bind fun g5 =>
    some (.inl (v5 + 1, g5))
  else
    some (.inr g)
set_option maxRecDepth 20000 in
theorem y_Y_sendForm_128 {L : Nat} {xs : Nat → Int32} {Q : Option Value → ab_H → Prop} {v0 : Nat} {v1 : Int32} {v2 : Int32} {v3 : Int32} {v4 : Int32} {v5 : Int32} {g : g_S} {out : (Int32 × g_S) ⊕ (g_S)} (e : b_Y_sendForm_128 v0 v1 v2 v3 v4 v5 g = some out) (c : cL_Y_sendForm_128 L xs Q v0 v1 v2 v3 v4 out) : wp (ab_ext L xs) J_Y_sendForm 128 [(0, .ref v0), (1, .int v1), (2, .int v2), (3, .int v3), (4, .int v4), (5, .int v5)] [] (hp g) Q := by
  unfold b_Y_sendForm_128 at e
  refine wp_p (j := J_Y_sendForm) 2 (pc' := 131) (lv' := [(0, .ref v0), (1, .int v1), (2, .int v2), (3, .int v3), (4, .int v4), (5, .int v5)]) (st' := [.ref v0, .int v5]) rfl ?_
  refine x_gQ e rfl rfl fd_12_60 rfl (fun z1 e => ?_)
  refine wp_p (j := J_Y_sendForm) 1 (pc' := 135) (lv' := [(0, .ref v0), (1, .int v1), (2, .int v2), (3, .int v3), (4, .int v4), (5, .int v5)]) (st' := [.int v3, .ref z1, .int v5]) rfl ?_
  refine x_aI e rfl rfl (fun z2 e => ?_)
  refine x_ge e rfl (fun e => ?_) (fun e => ?_)
  · refine wp_p (j := J_Y_sendForm) 2 (pc' := 141) (lv' := [(0, .ref v0), (1, .int v1), (2, .int v2), (3, .int v3), (4, .int v4), (5, .int v5)]) (st' := [.ref v0, .ref v0]) rfl ?_
    refine x_gQ e rfl rfl fd_12_59 rfl (fun z3 e => ?_)
    refine wp_p (j := J_Y_sendForm) 5 (pc' := 151) (lv' := [(0, .ref v0), (1, .int v1), (2, .int v2), (3, .int v3), (4, .int v4), (5, .int v5)]) (st' := [.int ((60 * v3) + v5), .ref z3, .ref v0]) rfl ?_
    refine x_aB e rfl (.inl rfl) rfl (fun z4 e => ?_)
    refine x_cv0 (As := [.int z4]) (rest := []) e rfl rfl rfl rfl rfl rfl (fun h => d_Y_ask h ⟨rfl, rfl⟩) (fun g5 e => ?_)
    refine wp_p (j := J_Y_sendForm) 2 (pc' := 128) (lv' := [(5, .int (v5 + 1)), (0, .ref v0), (1, .int v1), (2, .int v2), (3, .int v3), (4, .int v4)]) (st' := []) rfl ?_
    have e := Option.some.inj e; subst e; exact wp_lv (lv' := [(0, .ref v0), (1, .int v1), (2, .int v2), (3, .int v3), (4, .int v4), (5, .int (v5 + 1))]) rfl ⟨rfl, rfl, rfl, rfl, rfl, rfl, trivial⟩ c
  · have e := Option.some.inj e; subst e; exact wp_lv (lv' := [(0, .ref v0), (1, .int v1), (2, .int v2), (4, .int v4)]) rfl ⟨rfl, rfl, rfl, rfl, trivial⟩ c
noncomputable def L_Y_sendForm_128 (v0 : Nat) (v1 : Int32) (v2 : Int32) (v3 : Int32) (v4 : Int32) (v5 : Int32) (g : g_S) : Option (g_S) := it (fun s : Int32 × g_S => b_Y_sendForm_128 v0 v1 v2 v3 v4 s.1 s.2) (v5, g)
theorem l_Y_sendForm_128 {L : Nat} {xs : Nat → Int32} {Q : Option Value → ab_H → Prop} {v0 : Nat} {v1 : Int32} {v2 : Int32} {v3 : Int32} {v4 : Int32} {v5 : Int32} {g : g_S} {r : g_S} (e : L_Y_sendForm_128 v0 v1 v2 v3 v4 v5 g = some r) (c : cL_Y_sendForm_128 L xs Q v0 v1 v2 v3 v4 (.inr r)) : wp (ab_ext L xs) J_Y_sendForm 128 [(0, .ref v0), (1, .int v1), (2, .int v2), (3, .int v3), (4, .int v4), (5, .int v5)] [] (hp g) Q :=
  it_wp (P := fun s : Int32 × g_S => wp (ab_ext L xs) J_Y_sendForm 128 [(0, .ref v0), (1, .int v1), (2, .int v2), (3, .int v3), (4, .int v4), (5, .int s.1)] [] (hp s.2) Q) (E := fun r => cL_Y_sendForm_128 L xs Q v0 v1 v2 v3 v4 (.inr r)) (fun s out e c => y_Y_sendForm_128 e (by cases out <;> exact c)) e c
theorem L_Y_sendForm_128_eq (v0 : Nat) (v1 : Int32) (v2 : Int32) (v3 : Int32) (v4 : Int32) (v5 : Int32) (g : g_S) : L_Y_sendForm_128 v0 v1 v2 v3 v4 v5 g = itc (b_Y_sendForm_128 v0 v1 v2 v3 v4 v5 g) (fun s => L_Y_sendForm_128 v0 v1 v2 v3 v4 s.1 s.2) := it_eq2 (fun s : Int32 × g_S => b_Y_sendForm_128 v0 v1 v2 v3 v4 s.1 s.2) (v5, g)
def cL_Y_sendForm_190 (L : Nat) (xs : Nat → Int32) (Q : Option Value → ab_H → Prop) (v0 : Nat) (v1 : Int32) (v2 : Int32) (out : (Int32 × g_S) ⊕ (g_S)) : Prop := match out with
  | .inl s => wp (ab_ext L xs) J_Y_sendForm 190 [(0, .ref v0), (1, .int v1), (2, .int v2), (5, .int s.1)] [] (hp s.2) Q
  | .inr s => wp (ab_ext L xs) J_Y_sendForm 251 [(0, .ref v0), (1, .int v1), (2, .int v2)] [] (hp s) Q
noncomputable def b_Y_sendForm_190 (v0 : Nat) (v1 : Int32) (v2 : Int32) (v5 : Int32) (g : g_S) : Option ((Int32 × g_S) ⊕ (g_S)) :=
  (rQ g 112 v0 65).bind fun z1 =>
  (aI g 0 z1 v2).bind fun z2 =>
  if v5 < z2 then
    (rQ g 112 v0 64).bind fun z3 =>
    (aI g 1 z3 ((24 * v2) + v5)).bind fun z4 =>
    (M_Y_isSegment z4 g).bind fun z5 =>
    if z5 = 0 then
      if z4 = 32 then
        (vc g 112 v0 (M_Y_ask v0 43 g)).bind fun g6 =>
        some (.inl (v5 + 1, g6))
      else
        some (.inl (v5 + 1, g))
    else
      (vc g 112 v0 (M_Y_ask v0 z4 g)).bind fun g7 =>
      some (.inl (v5 + 1, g7))
  else
    some (.inr g)
set_option maxRecDepth 20000 in
theorem y_Y_sendForm_190 {L : Nat} {xs : Nat → Int32} {Q : Option Value → ab_H → Prop} {v0 : Nat} {v1 : Int32} {v2 : Int32} {v5 : Int32} {g : g_S} {out : (Int32 × g_S) ⊕ (g_S)} (e : b_Y_sendForm_190 v0 v1 v2 v5 g = some out) (c : cL_Y_sendForm_190 L xs Q v0 v1 v2 out) : wp (ab_ext L xs) J_Y_sendForm 190 [(0, .ref v0), (1, .int v1), (2, .int v2), (5, .int v5)] [] (hp g) Q := by
  unfold b_Y_sendForm_190 at e
  refine wp_p (j := J_Y_sendForm) 2 (pc' := 193) (lv' := [(0, .ref v0), (1, .int v1), (2, .int v2), (5, .int v5)]) (st' := [.ref v0, .int v5]) rfl ?_
  refine x_gQ e rfl rfl fd_12_65 rfl (fun z1 e => ?_)
  refine wp_p (j := J_Y_sendForm) 1 (pc' := 197) (lv' := [(0, .ref v0), (1, .int v1), (2, .int v2), (5, .int v5)]) (st' := [.int v2, .ref z1, .int v5]) rfl ?_
  refine x_aI e rfl rfl (fun z2 e => ?_)
  refine x_ge e rfl (fun e => ?_) (fun e => ?_)
  · refine wp_p (j := J_Y_sendForm) 1 (pc' := 202) (lv' := [(0, .ref v0), (1, .int v1), (2, .int v2), (5, .int v5)]) (st' := [.ref v0]) rfl ?_
    refine x_gQ e rfl rfl fd_12_64 rfl (fun z3 e => ?_)
    refine wp_p (j := J_Y_sendForm) 5 (pc' := 212) (lv' := [(0, .ref v0), (1, .int v1), (2, .int v2), (5, .int v5)]) (st' := [.int ((24 * v2) + v5), .ref z3]) rfl ?_
    refine x_aB e rfl (.inl rfl) rfl (fun z4 e => ?_)
    refine wp_p (j := J_Y_sendForm) 2 (pc' := 217) (lv' := [(6, .int z4), (0, .ref v0), (1, .int v1), (2, .int v2), (5, .int v5)]) (st' := [.int z4]) rfl ?_
    refine x_cs1 (As := [.int z4]) (rest := []) Value.int e rfl rfl rfl rfl rfl (fun h => d_Y_isSegment h ⟨rfl, rfl⟩) (fun z5 e => ?_)
    refine z_eq e rfl (fun e => ?_) (fun e => ?_)
    · refine wp_p (j := J_Y_sendForm) 2 (pc' := 236) (lv' := [(6, .int z4), (0, .ref v0), (1, .int v1), (2, .int v2), (5, .int v5)]) (st' := [.int 32, .int z4]) rfl ?_
      refine x_ne e rfl (fun e => ?_) (fun e => ?_)
      · refine wp_p (j := J_Y_sendForm) 2 (pc' := 242) (lv' := [(6, .int z4), (0, .ref v0), (1, .int v1), (2, .int v2), (5, .int v5)]) (st' := [.int 43, .ref v0]) rfl ?_
        refine x_cv0 (As := [.int 43]) (rest := []) e rfl rfl rfl rfl rfl rfl (fun h => d_Y_ask h ⟨rfl, rfl⟩) (fun g6 e => ?_)
        refine wp_p (j := J_Y_sendForm) 2 (pc' := 190) (lv' := [(5, .int (v5 + 1)), (6, .int z4), (0, .ref v0), (1, .int v1), (2, .int v2)]) (st' := []) rfl ?_
        have e := Option.some.inj e; subst e; exact wp_lv (lv' := [(0, .ref v0), (1, .int v1), (2, .int v2), (5, .int (v5 + 1))]) rfl ⟨rfl, rfl, rfl, rfl, trivial⟩ c
      · refine wp_p (j := J_Y_sendForm) 2 (pc' := 190) (lv' := [(5, .int (v5 + 1)), (6, .int z4), (0, .ref v0), (1, .int v1), (2, .int v2)]) (st' := []) rfl ?_
        have e := Option.some.inj e; subst e; exact wp_lv (lv' := [(0, .ref v0), (1, .int v1), (2, .int v2), (5, .int (v5 + 1))]) rfl ⟨rfl, rfl, rfl, rfl, trivial⟩ c
    · refine wp_p (j := J_Y_sendForm) 2 (pc' := 226) (lv' := [(6, .int z4), (0, .ref v0), (1, .int v1), (2, .int v2), (5, .int v5)]) (st' := [.int z4, .ref v0]) rfl ?_
      refine x_cv0 (As := [.int z4]) (rest := []) e rfl rfl rfl rfl rfl rfl (fun h => d_Y_ask h ⟨rfl, rfl⟩) (fun g7 e => ?_)
      refine wp_p (j := J_Y_sendForm) 3 (pc' := 190) (lv' := [(5, .int (v5 + 1)), (6, .int z4), (0, .ref v0), (1, .int v1), (2, .int v2)]) (st' := []) rfl ?_
      have e := Option.some.inj e; subst e; exact wp_lv (lv' := [(0, .ref v0), (1, .int v1), (2, .int v2), (5, .int (v5 + 1))]) rfl ⟨rfl, rfl, rfl, rfl, trivial⟩ c
  · have e := Option.some.inj e; subst e; exact wp_lv (lv' := [(0, .ref v0), (1, .int v1), (2, .int v2)]) rfl ⟨rfl, rfl, rfl, trivial⟩ c
noncomputable def L_Y_sendForm_190 (v0 : Nat) (v1 : Int32) (v2 : Int32) (v5 : Int32) (g : g_S) : Option (g_S) := it (fun s : Int32 × g_S => b_Y_sendForm_190 v0 v1 v2 s.1 s.2) (v5, g)
theorem l_Y_sendForm_190 {L : Nat} {xs : Nat → Int32} {Q : Option Value → ab_H → Prop} {v0 : Nat} {v1 : Int32} {v2 : Int32} {v5 : Int32} {g : g_S} {r : g_S} (e : L_Y_sendForm_190 v0 v1 v2 v5 g = some r) (c : cL_Y_sendForm_190 L xs Q v0 v1 v2 (.inr r)) : wp (ab_ext L xs) J_Y_sendForm 190 [(0, .ref v0), (1, .int v1), (2, .int v2), (5, .int v5)] [] (hp g) Q :=
  it_wp (P := fun s : Int32 × g_S => wp (ab_ext L xs) J_Y_sendForm 190 [(0, .ref v0), (1, .int v1), (2, .int v2), (5, .int s.1)] [] (hp s.2) Q) (E := fun r => cL_Y_sendForm_190 L xs Q v0 v1 v2 (.inr r)) (fun s out e c => y_Y_sendForm_190 e (by cases out <;> exact c)) e c
theorem L_Y_sendForm_190_eq (v0 : Nat) (v1 : Int32) (v2 : Int32) (v5 : Int32) (g : g_S) : L_Y_sendForm_190 v0 v1 v2 v5 g = itc (b_Y_sendForm_190 v0 v1 v2 v5 g) (fun s => L_Y_sendForm_190 v0 v1 v2 s.1 s.2) := it_eq2 (fun s : Int32 × g_S => b_Y_sendForm_190 v0 v1 v2 s.1 s.2) (v5, g)
def cL_Y_sendForm_7 (L : Nat) (xs : Nat → Int32) (Q : Option Value → ab_H → Prop) (v0 : Nat) (v1 : Int32) (out : (Int32 × g_S) ⊕ (g_S)) : Prop := match out with
  | .inl s => wp (ab_ext L xs) J_Y_sendForm 7 [(0, .ref v0), (1, .int v1), (2, .int s.1)] [] (hp s.2) Q
  | .inr s => wp (ab_ext L xs) J_Y_sendForm 261 [(0, .ref v0), (1, .int v1)] [] (hp s) Q
noncomputable def k_Y_sendForm_251 (v0 : Nat) (v1 : Int32) (v2 : Int32) (g : g_S) : Option ((Int32 × g_S) ⊕ (g_S)) :=
  (vc g 112 v0 (M_Y_after v0 v2 v1 g)).bind fun z1 =>
  some (.inl (z1, g))
set_option maxRecDepth 20000 in
theorem x_Y_sendForm_251 {L : Nat} {xs : Nat → Int32} {Q : Option Value → ab_H → Prop} {v0 : Nat} {v1 : Int32} {v2 : Int32} {g : g_S} {out : (Int32 × g_S) ⊕ (g_S)} (e : k_Y_sendForm_251 v0 v1 v2 g = some out) (c : cL_Y_sendForm_7 L xs Q v0 v1 out) : wp (ab_ext L xs) J_Y_sendForm 251 [(0, .ref v0), (1, .int v1), (2, .int v2)] [] (hp g) Q := by
  unfold k_Y_sendForm_251 at e
  refine wp_p (j := J_Y_sendForm) 3 (pc' := 254) (lv' := [(0, .ref v0), (1, .int v1), (2, .int v2)]) (st' := [.int v1, .int v2, .ref v0]) rfl ?_
  refine x_cv1 (As := [.int v2, .int v1]) (rest := []) Value.int e rfl rfl rfl rfl rfl rfl (fun h => d_Y_after h ⟨rfl, rfl⟩) (fun z1 e => ?_)
  refine wp_p (j := J_Y_sendForm) 2 (pc' := 7) (lv' := [(2, .int z1), (0, .ref v0), (1, .int v1)]) (st' := []) rfl ?_
  have e := Option.some.inj e; subst e; exact wp_lv (lv' := [(0, .ref v0), (1, .int v1), (2, .int z1)]) rfl ⟨rfl, rfl, rfl, trivial⟩ c
noncomputable def k_Y_sendForm_125 (v0 : Nat) (v1 : Int32) (v2 : Int32) (v3 : Int32) (v4 : Int32) (g : g_S) : Option ((Int32 × g_S) ⊕ (g_S)) :=
  (L_Y_sendForm_128 v0 v1 v2 v3 v4 0 g).bind <| fun g3 =>
  (vc g3 112 v0 (M_Y_ask v0 61 g3)).bind fun g4 =>
  if v4 = 0 then
    (L_Y_sendForm_190 v0 v1 v2 0 g4).bind <| fun g7 =>
    k_Y_sendForm_251 v0 v1 v2 g7
  else
    (vc g4 112 v0 (M_Y_ask v0 111 g4)).bind fun g8 =>
    (vc g8 112 v0 (M_Y_ask v0 110 g8)).bind fun g9 =>
    k_Y_sendForm_251 v0 v1 v2 g9
set_option maxRecDepth 20000 in
theorem x_Y_sendForm_125 {L : Nat} {xs : Nat → Int32} {Q : Option Value → ab_H → Prop} {v0 : Nat} {v1 : Int32} {v2 : Int32} {v3 : Int32} {v4 : Int32} {g : g_S} {out : (Int32 × g_S) ⊕ (g_S)} (e : k_Y_sendForm_125 v0 v1 v2 v3 v4 g = some out) (c : cL_Y_sendForm_7 L xs Q v0 v1 out) : wp (ab_ext L xs) J_Y_sendForm 125 [(0, .ref v0), (1, .int v1), (2, .int v2), (3, .int v3), (4, .int v4)] [] (hp g) Q := by
  unfold k_Y_sendForm_125 at e
  refine wp_p (j := J_Y_sendForm) 2 (pc' := 128) (lv' := [(5, .int 0), (0, .ref v0), (1, .int v1), (2, .int v2), (3, .int v3), (4, .int v4)]) (st' := []) rfl ?_
  obtain ⟨g3, h2, e⟩ := bd e
  refine wp_lv (lv' := [(0, .ref v0), (1, .int v1), (2, .int v2), (3, .int v3), (4, .int v4), (5, .int 0)]) rfl ⟨rfl, rfl, rfl, rfl, rfl, rfl, trivial⟩ ?_
  refine l_Y_sendForm_128 h2 ?_
  show wp (ab_ext L xs) J_Y_sendForm 161 [(0, .ref v0), (1, .int v1), (2, .int v2), (4, .int v4)] [] (hp g3) Q
  refine wp_p (j := J_Y_sendForm) 2 (pc' := 164) (lv' := [(0, .ref v0), (1, .int v1), (2, .int v2), (4, .int v4)]) (st' := [.int 61, .ref v0]) rfl ?_
  refine x_cv0 (As := [.int 61]) (rest := []) e rfl rfl rfl rfl rfl rfl (fun h => d_Y_ask h ⟨rfl, rfl⟩) (fun g4 e => ?_)
  refine wp_p (j := J_Y_sendForm) 1 (pc' := 169) (lv' := [(0, .ref v0), (1, .int v1), (2, .int v2), (4, .int v4)]) (st' := [.int v4]) rfl ?_
  refine z_eq e rfl (fun e => ?_) (fun e => ?_)
  · refine wp_p (j := J_Y_sendForm) 2 (pc' := 190) (lv' := [(5, .int 0), (0, .ref v0), (1, .int v1), (2, .int v2), (4, .int v4)]) (st' := []) rfl ?_
    obtain ⟨g7, h6, e⟩ := bd e
    refine wp_lv (lv' := [(0, .ref v0), (1, .int v1), (2, .int v2), (5, .int 0)]) rfl ⟨rfl, rfl, rfl, rfl, trivial⟩ ?_
    refine l_Y_sendForm_190 h6 ?_
    show wp (ab_ext L xs) J_Y_sendForm 251 [(0, .ref v0), (1, .int v1), (2, .int v2)] [] (hp g7) Q
    exact wp_lv (lv' := [(0, .ref v0), (1, .int v1), (2, .int v2)]) rfl ⟨rfl, rfl, rfl, trivial⟩ (x_Y_sendForm_251 e c)
  · refine wp_p (j := J_Y_sendForm) 2 (pc' := 175) (lv' := [(0, .ref v0), (1, .int v1), (2, .int v2), (4, .int v4)]) (st' := [.int 111, .ref v0]) rfl ?_
    refine x_cv0 (As := [.int 111]) (rest := []) e rfl rfl rfl rfl rfl rfl (fun h => d_Y_ask h ⟨rfl, rfl⟩) (fun g8 e => ?_)
    refine wp_p (j := J_Y_sendForm) 2 (pc' := 181) (lv' := [(0, .ref v0), (1, .int v1), (2, .int v2), (4, .int v4)]) (st' := [.int 110, .ref v0]) rfl ?_
    refine x_cv0 (As := [.int 110]) (rest := []) e rfl rfl rfl rfl rfl rfl (fun h => d_Y_ask h ⟨rfl, rfl⟩) (fun g9 e => ?_)
    refine wp_p (j := J_Y_sendForm) 1 (pc' := 251) (lv' := [(0, .ref v0), (1, .int v1), (2, .int v2), (4, .int v4)]) (st' := []) rfl ?_
    exact wp_lv (lv' := [(0, .ref v0), (1, .int v1), (2, .int v2)]) rfl ⟨rfl, rfl, rfl, trivial⟩ (x_Y_sendForm_251 e c)
noncomputable def k_Y_sendForm_112 (v0 : Nat) (v1 : Int32) (v2 : Int32) (v3 : Int32) (v4 : Int32) (g : g_S) : Option ((Int32 × g_S) ⊕ (g_S)) :=
  (rI g 112 v0 183).bind fun z1 =>
  if 0 < z1 then
    (vc g 112 v0 (M_Y_ask v0 38 g)).bind fun g2 =>
    k_Y_sendForm_125 v0 v1 v2 v3 v4 g2
  else
    k_Y_sendForm_125 v0 v1 v2 v3 v4 g
set_option maxRecDepth 20000 in
theorem x_Y_sendForm_112 {L : Nat} {xs : Nat → Int32} {Q : Option Value → ab_H → Prop} {v0 : Nat} {v1 : Int32} {v2 : Int32} {v3 : Int32} {v4 : Int32} {g : g_S} {out : (Int32 × g_S) ⊕ (g_S)} (e : k_Y_sendForm_112 v0 v1 v2 v3 v4 g = some out) (c : cL_Y_sendForm_7 L xs Q v0 v1 out) : wp (ab_ext L xs) J_Y_sendForm 112 [(0, .ref v0), (1, .int v1), (2, .int v2), (3, .int v3), (4, .int v4)] [] (hp g) Q := by
  unfold k_Y_sendForm_112 at e
  refine wp_p (j := J_Y_sendForm) 1 (pc' := 113) (lv' := [(0, .ref v0), (1, .int v1), (2, .int v2), (3, .int v3), (4, .int v4)]) (st' := [.ref v0]) rfl ?_
  refine x_gI e rfl rfl fd_12_183 rfl (fun z1 e => ?_)
  refine z_le e rfl (fun e => ?_) (fun e => ?_)
  · refine wp_p (j := J_Y_sendForm) 2 (pc' := 122) (lv' := [(0, .ref v0), (1, .int v1), (2, .int v2), (3, .int v3), (4, .int v4)]) (st' := [.int 38, .ref v0]) rfl ?_
    refine x_cv0 (As := [.int 38]) (rest := []) e rfl rfl rfl rfl rfl rfl (fun h => d_Y_ask h ⟨rfl, rfl⟩) (fun g2 e => ?_)
    exact wp_lv (lv' := [(0, .ref v0), (1, .int v1), (2, .int v2), (3, .int v3), (4, .int v4)]) rfl ⟨rfl, rfl, rfl, rfl, rfl, trivial⟩ (x_Y_sendForm_125 e c)
  · exact wp_lv (lv' := [(0, .ref v0), (1, .int v1), (2, .int v2), (3, .int v3), (4, .int v4)]) rfl ⟨rfl, rfl, rfl, rfl, rfl, trivial⟩ (x_Y_sendForm_125 e c)
noncomputable def b_Y_sendForm_7 (v0 : Nat) (v1 : Int32) (v2 : Int32) (g : g_S) : Option ((Int32 × g_S) ⊕ (g_S)) :=
  if v2 = (-1) then
    some (.inr g)
  else
    (rQ g 112 v0 46).bind fun z1 =>
    (aI g 0 z1 v2).bind fun z2 =>
    if z2 = 13 then
      (vc g 112 v0 (M_Y_attributeOf v0 v2 177198 g)).bind fun z3 =>
      if z3 = (-1) then
        k_Y_sendForm_251 v0 v1 v2 g
      else
        (rQ g 112 v0 60).bind fun z4 =>
        (aI g 0 z4 z3).bind fun z5 =>
        if z5 = 0 then
          k_Y_sendForm_251 v0 v1 v2 g
        else
          (rQ g 112 v0 59).bind fun z6 =>
          (rQ g 112 v0 60).bind fun z7 =>
          (aI g 0 z7 z3).bind fun z8 =>
          (M_Y_nameEnd z6 (60 * z3) ((60 * z3) + z8) g).bind fun z9 =>
          (rQ g 112 v0 60).bind fun z10 =>
          (aI g 0 z10 z3).bind fun z11 =>
          if z9 = ((60 * z3) + z11) then
            (vc g 112 v0 (M_Y_isCheck v0 v2 g)).bind fun z12 =>
            if z12 = 0 then
              k_Y_sendForm_112 v0 v1 v2 z3 z12 g
            else
              (rQ g 112 v0 66).bind fun z13 =>
              (aI g 2 z13 v2).bind fun z14 =>
              if z14 = 0 then
                k_Y_sendForm_251 v0 v1 v2 g
              else
                k_Y_sendForm_112 v0 v1 v2 z3 z12 g
          else
            k_Y_sendForm_251 v0 v1 v2 g
    else
      k_Y_sendForm_251 v0 v1 v2 g
set_option maxRecDepth 20000 in
theorem y_Y_sendForm_7 {L : Nat} {xs : Nat → Int32} {Q : Option Value → ab_H → Prop} {v0 : Nat} {v1 : Int32} {v2 : Int32} {g : g_S} {out : (Int32 × g_S) ⊕ (g_S)} (e : b_Y_sendForm_7 v0 v1 v2 g = some out) (c : cL_Y_sendForm_7 L xs Q v0 v1 out) : wp (ab_ext L xs) J_Y_sendForm 7 [(0, .ref v0), (1, .int v1), (2, .int v2)] [] (hp g) Q := by
  unfold b_Y_sendForm_7 at e
  refine wp_p (j := J_Y_sendForm) 2 (pc' := 9) (lv' := [(0, .ref v0), (1, .int v1), (2, .int v2)]) (st' := [.int (-1), .int v2]) rfl ?_
  refine x_eq e rfl (fun e => ?_) (fun e => ?_)
  · have e := Option.some.inj e; subst e; exact wp_lv (lv' := [(0, .ref v0), (1, .int v1)]) rfl ⟨rfl, rfl, trivial⟩ c
  · refine wp_p (j := J_Y_sendForm) 1 (pc' := 13) (lv' := [(0, .ref v0), (1, .int v1), (2, .int v2)]) (st' := [.ref v0]) rfl ?_
    refine x_gQ e rfl rfl fd_12_46 rfl (fun z1 e => ?_)
    refine wp_p (j := J_Y_sendForm) 1 (pc' := 17) (lv' := [(0, .ref v0), (1, .int v1), (2, .int v2)]) (st' := [.int v2, .ref z1]) rfl ?_
    refine x_aI e rfl rfl (fun z2 e => ?_)
    refine wp_p (j := J_Y_sendForm) 1 (pc' := 20) (lv' := [(0, .ref v0), (1, .int v1), (2, .int v2)]) (st' := [.int 13, .int z2]) rfl ?_
    refine x_eq e rfl (fun e => ?_) (fun e => ?_)
    · refine wp_p (j := J_Y_sendForm) 2 (pc' := 28) (lv' := [(0, .ref v0), (1, .int v1), (2, .int v2)]) (st' := [.int v2, .ref v0]) rfl ?_
      refine x_l2 (xl := 177198) rfl rfl rfl ?_
      refine x_cv1 (As := [.int v2, .long 177198]) (rest := []) Value.int e rfl rfl rfl rfl rfl rfl (fun h => d_Y_attributeOf h ⟨rfl, rfl⟩) (fun z3 e => ?_)
      refine wp_p (j := J_Y_sendForm) 3 (pc' := 37) (lv' := [(3, .int z3), (0, .ref v0), (1, .int v1), (2, .int v2)]) (st' := [.int (-1), .int z3]) rfl ?_
      refine x_eq e rfl (fun e => ?_) (fun e => ?_)
      · exact wp_lv (lv' := [(0, .ref v0), (1, .int v1), (2, .int v2)]) rfl ⟨rfl, rfl, rfl, trivial⟩ (x_Y_sendForm_251 e c)
      · refine wp_p (j := J_Y_sendForm) 1 (pc' := 41) (lv' := [(3, .int z3), (0, .ref v0), (1, .int v1), (2, .int v2)]) (st' := [.ref v0]) rfl ?_
        refine x_gQ e rfl rfl fd_12_60 rfl (fun z4 e => ?_)
        refine wp_p (j := J_Y_sendForm) 1 (pc' := 45) (lv' := [(3, .int z3), (0, .ref v0), (1, .int v1), (2, .int v2)]) (st' := [.int z3, .ref z4]) rfl ?_
        refine x_aI e rfl rfl (fun z5 e => ?_)
        refine z_eq e rfl (fun e => ?_) (fun e => ?_)
        · exact wp_lv (lv' := [(0, .ref v0), (1, .int v1), (2, .int v2)]) rfl ⟨rfl, rfl, rfl, trivial⟩ (x_Y_sendForm_251 e c)
        · refine wp_p (j := J_Y_sendForm) 1 (pc' := 50) (lv' := [(3, .int z3), (0, .ref v0), (1, .int v1), (2, .int v2)]) (st' := [.ref v0]) rfl ?_
          refine x_gQ e rfl rfl fd_12_59 rfl (fun z6 e => ?_)
          refine wp_p (j := J_Y_sendForm) 7 (pc' := 62) (lv' := [(3, .int z3), (0, .ref v0), (1, .int v1), (2, .int v2)]) (st' := [.ref v0, .int (60 * z3), .int (60 * z3), .ref z6]) rfl ?_
          refine x_gQ e rfl rfl fd_12_60 rfl (fun z7 e => ?_)
          refine wp_p (j := J_Y_sendForm) 1 (pc' := 66) (lv' := [(3, .int z3), (0, .ref v0), (1, .int v1), (2, .int v2)]) (st' := [.int z3, .ref z7, .int (60 * z3), .int (60 * z3), .ref z6]) rfl ?_
          refine x_aI e rfl rfl (fun z8 e => ?_)
          refine wp_p (j := J_Y_sendForm) 1 (pc' := 68) (lv' := [(3, .int z3), (0, .ref v0), (1, .int v1), (2, .int v2)]) (st' := [.int ((60 * z3) + z8), .int (60 * z3), .ref z6]) rfl ?_
          refine x_cs1 (As := [.ref z6, .int (60 * z3), .int ((60 * z3) + z8)]) (rest := []) Value.int e rfl rfl rfl rfl rfl (fun h => d_Y_nameEnd h ⟨rfl, rfl⟩) (fun z9 e => ?_)
          refine wp_p (j := J_Y_sendForm) 4 (pc' := 76) (lv' := [(3, .int z3), (0, .ref v0), (1, .int v1), (2, .int v2)]) (st' := [.ref v0, .int (60 * z3), .int z9]) rfl ?_
          refine x_gQ e rfl rfl fd_12_60 rfl (fun z10 e => ?_)
          refine wp_p (j := J_Y_sendForm) 1 (pc' := 80) (lv' := [(3, .int z3), (0, .ref v0), (1, .int v1), (2, .int v2)]) (st' := [.int z3, .ref z10, .int (60 * z3), .int z9]) rfl ?_
          refine x_aI e rfl rfl (fun z11 e => ?_)
          refine wp_p (j := J_Y_sendForm) 1 (pc' := 82) (lv' := [(3, .int z3), (0, .ref v0), (1, .int v1), (2, .int v2)]) (st' := [.int ((60 * z3) + z11), .int z9]) rfl ?_
          refine x_eq e rfl (fun e => ?_) (fun e => ?_)
          · refine wp_p (j := J_Y_sendForm) 2 (pc' := 90) (lv' := [(3, .int z3), (0, .ref v0), (1, .int v1), (2, .int v2)]) (st' := [.int v2, .ref v0]) rfl ?_
            refine x_cv1 (As := [.int v2]) (rest := []) Value.int e rfl rfl rfl rfl rfl rfl (fun h => d_Y_isCheck h ⟨rfl, rfl⟩) (fun z12 e => ?_)
            refine wp_p (j := J_Y_sendForm) 2 (pc' := 97) (lv' := [(4, .int z12), (3, .int z3), (0, .ref v0), (1, .int v1), (2, .int v2)]) (st' := [.int z12]) rfl ?_
            refine z_eq e rfl (fun e => ?_) (fun e => ?_)
            · exact wp_lv (lv' := [(0, .ref v0), (1, .int v1), (2, .int v2), (3, .int z3), (4, .int z12)]) rfl ⟨rfl, rfl, rfl, rfl, rfl, trivial⟩ (x_Y_sendForm_112 e c)
            · refine wp_p (j := J_Y_sendForm) 1 (pc' := 101) (lv' := [(4, .int z12), (3, .int z3), (0, .ref v0), (1, .int v1), (2, .int v2)]) (st' := [.ref v0]) rfl ?_
              refine x_gQ e rfl rfl fd_12_66 rfl (fun z13 e => ?_)
              refine wp_p (j := J_Y_sendForm) 1 (pc' := 105) (lv' := [(4, .int z12), (3, .int z3), (0, .ref v0), (1, .int v1), (2, .int v2)]) (st' := [.int v2, .ref z13]) rfl ?_
              refine x_aB e rfl (.inr rfl) rfl (fun z14 e => ?_)
              refine z_ne e rfl (fun e => ?_) (fun e => ?_)
              · refine wp_p (j := J_Y_sendForm) 1 (pc' := 251) (lv' := [(4, .int z12), (3, .int z3), (0, .ref v0), (1, .int v1), (2, .int v2)]) (st' := []) rfl ?_
                exact wp_lv (lv' := [(0, .ref v0), (1, .int v1), (2, .int v2)]) rfl ⟨rfl, rfl, rfl, trivial⟩ (x_Y_sendForm_251 e c)
              · exact wp_lv (lv' := [(0, .ref v0), (1, .int v1), (2, .int v2), (3, .int z3), (4, .int z12)]) rfl ⟨rfl, rfl, rfl, rfl, rfl, trivial⟩ (x_Y_sendForm_112 e c)
          · refine wp_p (j := J_Y_sendForm) 1 (pc' := 251) (lv' := [(3, .int z3), (0, .ref v0), (1, .int v1), (2, .int v2)]) (st' := []) rfl ?_
            exact wp_lv (lv' := [(0, .ref v0), (1, .int v1), (2, .int v2)]) rfl ⟨rfl, rfl, rfl, trivial⟩ (x_Y_sendForm_251 e c)
    · refine wp_p (j := J_Y_sendForm) 1 (pc' := 251) (lv' := [(0, .ref v0), (1, .int v1), (2, .int v2)]) (st' := []) rfl ?_
      exact wp_lv (lv' := [(0, .ref v0), (1, .int v1), (2, .int v2)]) rfl ⟨rfl, rfl, rfl, trivial⟩ (x_Y_sendForm_251 e c)
noncomputable def L_Y_sendForm_7 (v0 : Nat) (v1 : Int32) (v2 : Int32) (g : g_S) : Option (g_S) := it (fun s : Int32 × g_S => b_Y_sendForm_7 v0 v1 s.1 s.2) (v2, g)
theorem l_Y_sendForm_7 {L : Nat} {xs : Nat → Int32} {Q : Option Value → ab_H → Prop} {v0 : Nat} {v1 : Int32} {v2 : Int32} {g : g_S} {r : g_S} (e : L_Y_sendForm_7 v0 v1 v2 g = some r) (c : cL_Y_sendForm_7 L xs Q v0 v1 (.inr r)) : wp (ab_ext L xs) J_Y_sendForm 7 [(0, .ref v0), (1, .int v1), (2, .int v2)] [] (hp g) Q :=
  it_wp (P := fun s : Int32 × g_S => wp (ab_ext L xs) J_Y_sendForm 7 [(0, .ref v0), (1, .int v1), (2, .int s.1)] [] (hp s.2) Q) (E := fun r => cL_Y_sendForm_7 L xs Q v0 v1 (.inr r)) (fun s out e c => y_Y_sendForm_7 e (by cases out <;> exact c)) e c
theorem L_Y_sendForm_7_eq (v0 : Nat) (v1 : Int32) (v2 : Int32) (g : g_S) : L_Y_sendForm_7 v0 v1 v2 g = itc (b_Y_sendForm_7 v0 v1 v2 g) (fun s => L_Y_sendForm_7 v0 v1 s.1 s.2) := it_eq2 (fun s : Int32 × g_S => b_Y_sendForm_7 v0 v1 s.1 s.2) (v2, g)
noncomputable def k_Y_sendForm_363 (v0 : Nat) (g : g_S) : Option g_S :=
  (vc g 112 v0 (M_Y_visitResult v0 g)).bind fun g1 =>
  some g1
set_option maxRecDepth 20000 in
theorem x_Y_sendForm_363 {L : Nat} {xs : Nat → Int32} {Q : Option Value → ab_H → Prop} {v0 : Nat} {g : g_S} {out : g_S} (e : k_Y_sendForm_363 v0 g = some out) (c : Q none (hp out)) : wp (ab_ext L xs) J_Y_sendForm 363 [(0, .ref v0)] [] (hp g) Q := by
  unfold k_Y_sendForm_363 at e
  refine wp_p (j := J_Y_sendForm) 1 (pc' := 364) (lv' := [(0, .ref v0)]) (st' := [.ref v0]) rfl ?_
  refine x_cv0 (As := []) (rest := []) e rfl rfl rfl rfl rfl rfl (fun h => d_Y_visitResult h ⟨rfl, rfl⟩) (fun g1 e => ?_)
  have e := Option.some.inj e; subst e; exact wp_vret rfl rfl c
noncomputable def k_Y_sendForm_312 (v0 : Nat) (g : g_S) : Option g_S :=
  (rQ g 112 v0 7).bind fun z1 =>
  (vc g 112 v0 (M_Y_queryAt v0 0 g)).bind fun z2 =>
  (sI g z1 0 z2).bind fun g3 =>
  (vc g3 112 v0 (M_Y_put v0 0 63 g3)).bind fun g4 =>
  (L_Y_sendForm_332 v0 0 g4).bind <| fun g7 =>
  k_Y_sendForm_363 v0 g7
set_option maxRecDepth 20000 in
theorem x_Y_sendForm_312 {L : Nat} {xs : Nat → Int32} {Q : Option Value → ab_H → Prop} {v0 : Nat} {g : g_S} {out : g_S} (e : k_Y_sendForm_312 v0 g = some out) (c : Q none (hp out)) : wp (ab_ext L xs) J_Y_sendForm 312 [(0, .ref v0)] [] (hp g) Q := by
  unfold k_Y_sendForm_312 at e
  refine wp_p (j := J_Y_sendForm) 1 (pc' := 313) (lv' := [(0, .ref v0)]) (st' := [.ref v0]) rfl ?_
  refine x_gQ e rfl rfl fd_12_7 rfl (fun z1 e => ?_)
  refine wp_p (j := J_Y_sendForm) 3 (pc' := 319) (lv' := [(0, .ref v0)]) (st' := [.int 0, .ref v0, .int 0, .ref z1]) rfl ?_
  refine x_cv1 (As := [.int 0]) (rest := [.int 0, .ref z1]) Value.int e rfl rfl rfl rfl rfl rfl (fun h => d_Y_queryAt h ⟨rfl, rfl⟩) (fun z2 e => ?_)
  refine x_sI e rfl rfl (fun g3 e => ?_)
  refine wp_p (j := J_Y_sendForm) 3 (pc' := 327) (lv' := [(0, .ref v0)]) (st' := [.int 63, .int 0, .ref v0]) rfl ?_
  refine x_cv0 (As := [.int 0, .int 63]) (rest := []) e rfl rfl rfl rfl rfl rfl (fun h => d_Y_put h ⟨rfl, rfl⟩) (fun g4 e => ?_)
  refine wp_p (j := J_Y_sendForm) 2 (pc' := 332) (lv' := [(3, .int 0), (0, .ref v0)]) (st' := []) rfl ?_
  obtain ⟨g7, h6, e⟩ := bd e
  refine wp_lv (lv' := [(0, .ref v0), (3, .int 0)]) rfl ⟨rfl, rfl, trivial⟩ ?_
  refine l_Y_sendForm_332 h6 ?_
  show wp (ab_ext L xs) J_Y_sendForm 363 [(0, .ref v0)] [] (hp g7) Q
  exact wp_lv (lv' := [(0, .ref v0)]) rfl ⟨rfl, trivial⟩ (x_Y_sendForm_363 e c)
noncomputable def M_Y_sendForm (v0 : Nat) (v1 : Int32) (g : g_S) : Option g_S :=
  (wI g 112 v0 183 0).bind fun g1 =>
  (L_Y_sendForm_7 v0 v1 v1 g1).bind <| fun g4 =>
  (vc g4 112 v0 (M_Y_attributeOf v0 v1 485806177 g4)).bind fun z5 =>
  if z5 = (-1) then
    (vc g4 112 v0 (M_Y_copyRow v0 0 1 g4)).bind fun g6 =>
    k_Y_sendForm_312 v0 g6
  else
    (rQ g4 112 v0 59).bind fun z7 =>
    (rQ g4 112 v0 60).bind fun z8 =>
    (aI g4 0 z8 z5).bind fun z9 =>
    c2 (vc g4 112 v0 (M_Y_refer v0 z7 (60 * z5) ((60 * z5) + z9) 1 g4)) fun z10 g11 =>
    if z10 = 0 then
      some g11
    else
      k_Y_sendForm_312 v0 g11
set_option maxRecDepth 20000 in
theorem d_Y_sendForm {L : Nat} {xs : Nat → Int32} {Q : Option Value → ab_H → Prop} {v0 : Nat} {v1 : Int32} {g : g_S} {out : g_S} (e : M_Y_sendForm v0 v1 g = some out) (c : Q none (hp out)) : mw (ab_ext L xs) J_Y_sendForm [.ref v0, .int v1] (hp g) Q := by
  unfold M_Y_sendForm at e
  refine wp_p (j := J_Y_sendForm) 2 (pc' := 2) (lv' := [(0, .ref v0), (1, .int v1)]) (st' := [.int 0, .ref v0]) rfl ?_
  refine x_pI e rfl rfl fw_12_183 rfl (fun g1 e => ?_)
  refine wp_p (j := J_Y_sendForm) 2 (pc' := 7) (lv' := [(2, .int v1), (0, .ref v0), (1, .int v1)]) (st' := []) rfl ?_
  obtain ⟨g4, h3, e⟩ := bd e
  refine wp_lv (lv' := [(0, .ref v0), (1, .int v1), (2, .int v1)]) rfl ⟨rfl, rfl, rfl, trivial⟩ ?_
  refine l_Y_sendForm_7 h3 ?_
  show wp (ab_ext L xs) J_Y_sendForm 261 [(0, .ref v0), (1, .int v1)] [] (hp g4) Q
  refine wp_p (j := J_Y_sendForm) 2 (pc' := 263) (lv' := [(0, .ref v0), (1, .int v1)]) (st' := [.int v1, .ref v0]) rfl ?_
  refine x_l2 (xl := 485806177) rfl rfl rfl ?_
  refine x_cv1 (As := [.int v1, .long 485806177]) (rest := []) Value.int e rfl rfl rfl rfl rfl rfl (fun h => d_Y_attributeOf h ⟨rfl, rfl⟩) (fun z5 e => ?_)
  refine wp_p (j := J_Y_sendForm) 3 (pc' := 272) (lv' := [(2, .int z5), (0, .ref v0), (1, .int v1)]) (st' := [.int (-1), .int z5]) rfl ?_
  refine x_ne e rfl (fun e => ?_) (fun e => ?_)
  · refine wp_p (j := J_Y_sendForm) 3 (pc' := 278) (lv' := [(2, .int z5), (0, .ref v0), (1, .int v1)]) (st' := [.int 1, .int 0, .ref v0]) rfl ?_
    refine x_cv0 (As := [.int 0, .int 1]) (rest := []) e rfl rfl rfl rfl rfl rfl (fun h => d_Y_copyRow h ⟨rfl, rfl⟩) (fun g6 e => ?_)
    refine wp_p (j := J_Y_sendForm) 1 (pc' := 312) (lv' := [(2, .int z5), (0, .ref v0), (1, .int v1)]) (st' := []) rfl ?_
    exact wp_lv (lv' := [(0, .ref v0)]) rfl ⟨rfl, trivial⟩ (x_Y_sendForm_312 e c)
  · refine wp_p (j := J_Y_sendForm) 2 (pc' := 286) (lv' := [(2, .int z5), (0, .ref v0), (1, .int v1)]) (st' := [.ref v0, .ref v0]) rfl ?_
    refine x_gQ e rfl rfl fd_12_59 rfl (fun z7 e => ?_)
    refine wp_p (j := J_Y_sendForm) 7 (pc' := 298) (lv' := [(2, .int z5), (0, .ref v0), (1, .int v1)]) (st' := [.ref v0, .int (60 * z5), .int (60 * z5), .ref z7, .ref v0]) rfl ?_
    refine x_gQ e rfl rfl fd_12_60 rfl (fun z8 e => ?_)
    refine wp_p (j := J_Y_sendForm) 1 (pc' := 302) (lv' := [(2, .int z5), (0, .ref v0), (1, .int v1)]) (st' := [.int z5, .ref z8, .int (60 * z5), .int (60 * z5), .ref z7, .ref v0]) rfl ?_
    refine x_aI e rfl rfl (fun z9 e => ?_)
    refine wp_p (j := J_Y_sendForm) 2 (pc' := 305) (lv' := [(2, .int z5), (0, .ref v0), (1, .int v1)]) (st' := [.int 1, .int ((60 * z5) + z9), .int (60 * z5), .ref z7, .ref v0]) rfl ?_
    refine x_cv2 (As := [.ref z7, .int (60 * z5), .int ((60 * z5) + z9), .int 1]) (rest := []) Value.int e rfl rfl rfl rfl rfl rfl (fun h => d_Y_refer h ⟨rfl, rfl⟩) (fun z10 g11 e => ?_)
    refine z_ne e rfl (fun e => ?_) (fun e => ?_)
    · have e := Option.some.inj e; subst e; exact wp_vret rfl rfl c
    · exact wp_lv (lv' := [(0, .ref v0)]) rfl ⟨rfl, trivial⟩ (x_Y_sendForm_312 e c)
def cL_Y_pressed_9 (L : Nat) (xs : Nat → Int32) (Q : Option Value → ab_H → Prop) (v0 : Nat) (out : (Int32 × Int32 × g_S) ⊕ (g_S)) : Prop := match out with
  | .inl s => wp (ab_ext L xs) J_Y_pressed 9 [(0, .ref v0), (1, .int s.1), (2, .int s.2.1)] [] (hp s.2.2) Q
  | .inr s => wp (ab_ext L xs) J_Y_pressed 258 [] [] (hp s) Q
noncomputable def k_Y_pressed_211 (v0 : Nat) (v1 : Int32) (v2 : Int32) (v3 : Int32) (v5 : Int32) (g : g_S) : Option ((Int32 × Int32 × g_S) ⊕ (g_S)) :=
  (rQ g 112 v0 46).bind fun z1 =>
  (aI g 0 z1 v3).bind fun z2 =>
  if z2 = 13 then
    (wI g 112 v0 150 v3).bind fun g3 =>
    (rQ g3 112 v0 55).bind fun z4 =>
    (aI g3 0 z4 v3).bind fun z5 =>
    (wI g3 112 v0 151 z5).bind fun g6 =>
    some (.inl (v1, v2 + 1, g6))
  else
    if v5 = (-1) then
      some (.inl (v1, v2 + 1, g))
    else
      (vc g 112 v0 (M_Y_sendForm v0 v5 g)).bind fun g7 =>
      some (.inl (v1, v2 + 1, g7))
set_option maxRecDepth 20000 in
theorem x_Y_pressed_211 {L : Nat} {xs : Nat → Int32} {Q : Option Value → ab_H → Prop} {v0 : Nat} {v1 : Int32} {v2 : Int32} {v3 : Int32} {v5 : Int32} {g : g_S} {out : (Int32 × Int32 × g_S) ⊕ (g_S)} (e : k_Y_pressed_211 v0 v1 v2 v3 v5 g = some out) (c : cL_Y_pressed_9 L xs Q v0 out) : wp (ab_ext L xs) J_Y_pressed 211 [(0, .ref v0), (1, .int v1), (2, .int v2), (3, .int v3), (5, .int v5)] [] (hp g) Q := by
  unfold k_Y_pressed_211 at e
  refine wp_p (j := J_Y_pressed) 1 (pc' := 212) (lv' := [(0, .ref v0), (1, .int v1), (2, .int v2), (3, .int v3), (5, .int v5)]) (st' := [.ref v0]) rfl ?_
  refine x_gQ e rfl rfl fd_12_46 rfl (fun z1 e => ?_)
  refine wp_p (j := J_Y_pressed) 1 (pc' := 216) (lv' := [(0, .ref v0), (1, .int v1), (2, .int v2), (3, .int v3), (5, .int v5)]) (st' := [.int v3, .ref z1]) rfl ?_
  refine x_aI e rfl rfl (fun z2 e => ?_)
  refine wp_p (j := J_Y_pressed) 1 (pc' := 219) (lv' := [(0, .ref v0), (1, .int v1), (2, .int v2), (3, .int v3), (5, .int v5)]) (st' := [.int 13, .int z2]) rfl ?_
  refine x_ne e rfl (fun e => ?_) (fun e => ?_)
  · refine wp_p (j := J_Y_pressed) 2 (pc' := 224) (lv' := [(0, .ref v0), (1, .int v1), (2, .int v2), (3, .int v3), (5, .int v5)]) (st' := [.int v3, .ref v0]) rfl ?_
    refine x_pI e rfl rfl fw_12_150 rfl (fun g3 e => ?_)
    refine wp_p (j := J_Y_pressed) 2 (pc' := 229) (lv' := [(0, .ref v0), (1, .int v1), (2, .int v2), (3, .int v3), (5, .int v5)]) (st' := [.ref v0, .ref v0]) rfl ?_
    refine x_gQ e rfl rfl fd_12_55 rfl (fun z4 e => ?_)
    refine wp_p (j := J_Y_pressed) 1 (pc' := 233) (lv' := [(0, .ref v0), (1, .int v1), (2, .int v2), (3, .int v3), (5, .int v5)]) (st' := [.int v3, .ref z4, .ref v0]) rfl ?_
    refine x_aI e rfl rfl (fun z5 e => ?_)
    refine x_pI e rfl rfl fw_12_151 rfl (fun g6 e => ?_)
    refine wp_p (j := J_Y_pressed) 3 (pc' := 9) (lv' := [(2, .int (v2 + 1)), (0, .ref v0), (1, .int v1), (3, .int v3), (5, .int v5)]) (st' := []) rfl ?_
    have e := Option.some.inj e; subst e; exact wp_lv (lv' := [(0, .ref v0), (1, .int v1), (2, .int (v2 + 1))]) rfl ⟨rfl, rfl, rfl, trivial⟩ c
  · refine wp_p (j := J_Y_pressed) 2 (pc' := 243) (lv' := [(0, .ref v0), (1, .int v1), (2, .int v2), (3, .int v3), (5, .int v5)]) (st' := [.int (-1), .int v5]) rfl ?_
    refine x_eq e rfl (fun e => ?_) (fun e => ?_)
    · refine wp_p (j := J_Y_pressed) 2 (pc' := 9) (lv' := [(2, .int (v2 + 1)), (0, .ref v0), (1, .int v1), (3, .int v3), (5, .int v5)]) (st' := []) rfl ?_
      have e := Option.some.inj e; subst e; exact wp_lv (lv' := [(0, .ref v0), (1, .int v1), (2, .int (v2 + 1))]) rfl ⟨rfl, rfl, rfl, trivial⟩ c
    · refine wp_p (j := J_Y_pressed) 2 (pc' := 249) (lv' := [(0, .ref v0), (1, .int v1), (2, .int v2), (3, .int v3), (5, .int v5)]) (st' := [.int v5, .ref v0]) rfl ?_
      refine x_cv0 (As := [.int v5]) (rest := []) e rfl rfl rfl rfl rfl rfl (fun h => d_Y_sendForm h ⟨rfl, rfl⟩) (fun g7 e => ?_)
      refine wp_p (j := J_Y_pressed) 2 (pc' := 9) (lv' := [(2, .int (v2 + 1)), (0, .ref v0), (1, .int v1), (3, .int v3), (5, .int v5)]) (st' := []) rfl ?_
      have e := Option.some.inj e; subst e; exact wp_lv (lv' := [(0, .ref v0), (1, .int v1), (2, .int (v2 + 1))]) rfl ⟨rfl, rfl, rfl, trivial⟩ c
noncomputable def k_Y_pressed_207 (v0 : Nat) (v1 : Int32) (v2 : Int32) (w0 : Int32) (w1 : Int32) (w2 : Nat) (g : g_S) : Option ((Int32 × Int32 × g_S) ⊕ (g_S)) :=
  (sZ g w2 w1 w0).bind fun g1 =>
  some (.inl (v1, v2 + 1, g1))
set_option maxRecDepth 20000 in
theorem x_Y_pressed_207 {L : Nat} {xs : Nat → Int32} {Q : Option Value → ab_H → Prop} {v0 : Nat} {v1 : Int32} {v2 : Int32} {w0 : Int32} {w1 : Int32} {w2 : Nat} {g : g_S} {out : (Int32 × Int32 × g_S) ⊕ (g_S)} (e : k_Y_pressed_207 v0 v1 v2 w0 w1 w2 g = some out) (c : cL_Y_pressed_9 L xs Q v0 out) : wp (ab_ext L xs) J_Y_pressed 207 [(0, .ref v0), (1, .int v1), (2, .int v2)] [.int w0, .int w1, .ref w2] (hp g) Q := by
  unfold k_Y_pressed_207 at e
  refine x_sZ e rfl rfl (fun g1 e => ?_)
  refine wp_p (j := J_Y_pressed) 3 (pc' := 9) (lv' := [(2, .int (v2 + 1)), (0, .ref v0), (1, .int v1)]) (st' := []) rfl ?_
  have e := Option.some.inj e; subst e; exact wp_lv (lv' := [(0, .ref v0), (1, .int v1), (2, .int (v2 + 1))]) rfl ⟨rfl, rfl, rfl, trivial⟩ c
noncomputable def k_Y_pressed_125 (v0 : Nat) (v2 : Int32) (v3 : Int32) (v4 : Int32) (v5 : Int32) (w0 : Int32) (g : g_S) : Option ((Int32 × Int32 × g_S) ⊕ (g_S)) :=
  if v4 = (-1) then
    (rQ g 112 v0 46).bind fun z1 =>
    (aI g 0 z1 v3).bind fun z2 =>
    if z2 = 13 then
      (vc g 112 v0 (M_Y_isCheck v0 v3 g)).bind fun z3 =>
      if z3 = 0 then
        k_Y_pressed_211 v0 w0 v2 v3 v5 g
      else
        (rQ g 112 v0 66).bind fun z4 =>
        (rQ g 112 v0 66).bind fun z5 =>
        (aI g 2 z5 v3).bind fun z6 =>
        if z6 = 0 then
          k_Y_pressed_207 v0 w0 v2 1 v3 z4 g
        else
          k_Y_pressed_207 v0 w0 v2 0 v3 z4 g
    else
      k_Y_pressed_211 v0 w0 v2 v3 v5 g
  else
    (rQ g 112 v0 59).bind fun z7 =>
    (rQ g 112 v0 60).bind fun z8 =>
    (aI g 0 z8 v4).bind fun z9 =>
    c2 (vc g 112 v0 (M_Y_refer v0 z7 (60 * v4) ((60 * v4) + z9) 1 g)) fun z10 g11 =>
    if z10 = 0 then
      some (.inl (w0, v2 + 1, g11))
    else
      (vc g11 112 v0 (M_Y_visitResult v0 g11)).bind fun g12 =>
      some (.inl (w0, v2 + 1, g12))
set_option maxRecDepth 20000 in
theorem x_Y_pressed_125 {L : Nat} {xs : Nat → Int32} {Q : Option Value → ab_H → Prop} {v0 : Nat} {v2 : Int32} {v3 : Int32} {v4 : Int32} {v5 : Int32} {w0 : Int32} {g : g_S} {out : (Int32 × Int32 × g_S) ⊕ (g_S)} (e : k_Y_pressed_125 v0 v2 v3 v4 v5 w0 g = some out) (c : cL_Y_pressed_9 L xs Q v0 out) : wp (ab_ext L xs) J_Y_pressed 125 [(0, .ref v0), (2, .int v2), (3, .int v3), (4, .int v4), (5, .int v5)] [.int w0] (hp g) Q := by
  unfold k_Y_pressed_125 at e
  refine wp_p (j := J_Y_pressed) 3 (pc' := 129) (lv' := [(1, .int w0), (0, .ref v0), (2, .int v2), (3, .int v3), (4, .int v4), (5, .int v5)]) (st' := [.int (-1), .int v4]) rfl ?_
  refine x_eq e rfl (fun e => ?_) (fun e => ?_)
  · refine wp_p (j := J_Y_pressed) 1 (pc' := 170) (lv' := [(1, .int w0), (0, .ref v0), (2, .int v2), (3, .int v3), (4, .int v4), (5, .int v5)]) (st' := [.ref v0]) rfl ?_
    refine x_gQ e rfl rfl fd_12_46 rfl (fun z1 e => ?_)
    refine wp_p (j := J_Y_pressed) 1 (pc' := 174) (lv' := [(1, .int w0), (0, .ref v0), (2, .int v2), (3, .int v3), (4, .int v4), (5, .int v5)]) (st' := [.int v3, .ref z1]) rfl ?_
    refine x_aI e rfl rfl (fun z2 e => ?_)
    refine wp_p (j := J_Y_pressed) 1 (pc' := 177) (lv' := [(1, .int w0), (0, .ref v0), (2, .int v2), (3, .int v3), (4, .int v4), (5, .int v5)]) (st' := [.int 13, .int z2]) rfl ?_
    refine x_ne e rfl (fun e => ?_) (fun e => ?_)
    · refine wp_p (j := J_Y_pressed) 2 (pc' := 182) (lv' := [(1, .int w0), (0, .ref v0), (2, .int v2), (3, .int v3), (4, .int v4), (5, .int v5)]) (st' := [.int v3, .ref v0]) rfl ?_
      refine x_cv1 (As := [.int v3]) (rest := []) Value.int e rfl rfl rfl rfl rfl rfl (fun h => d_Y_isCheck h ⟨rfl, rfl⟩) (fun z3 e => ?_)
      refine z_eq e rfl (fun e => ?_) (fun e => ?_)
      · exact wp_lv (lv' := [(0, .ref v0), (1, .int w0), (2, .int v2), (3, .int v3), (5, .int v5)]) rfl ⟨rfl, rfl, rfl, rfl, rfl, trivial⟩ (x_Y_pressed_211 e c)
      · refine wp_p (j := J_Y_pressed) 1 (pc' := 189) (lv' := [(1, .int w0), (0, .ref v0), (2, .int v2), (3, .int v3), (4, .int v4), (5, .int v5)]) (st' := [.ref v0]) rfl ?_
        refine x_gQ e rfl rfl fd_12_66 rfl (fun z4 e => ?_)
        refine wp_p (j := J_Y_pressed) 2 (pc' := 194) (lv' := [(1, .int w0), (0, .ref v0), (2, .int v2), (3, .int v3), (4, .int v4), (5, .int v5)]) (st' := [.ref v0, .int v3, .ref z4]) rfl ?_
        refine x_gQ e rfl rfl fd_12_66 rfl (fun z5 e => ?_)
        refine wp_p (j := J_Y_pressed) 1 (pc' := 198) (lv' := [(1, .int w0), (0, .ref v0), (2, .int v2), (3, .int v3), (4, .int v4), (5, .int v5)]) (st' := [.int v3, .ref z5, .int v3, .ref z4]) rfl ?_
        refine x_aB e rfl (.inr rfl) rfl (fun z6 e => ?_)
        refine z_ne e rfl (fun e => ?_) (fun e => ?_)
        · refine wp_p (j := J_Y_pressed) 2 (pc' := 207) (lv' := [(1, .int w0), (0, .ref v0), (2, .int v2), (3, .int v3), (4, .int v4), (5, .int v5)]) (st' := [.int 1, .int v3, .ref z4]) rfl ?_
          exact wp_lv (lv' := [(0, .ref v0), (1, .int w0), (2, .int v2)]) rfl ⟨rfl, rfl, rfl, trivial⟩ (x_Y_pressed_207 e c)
        · refine wp_p (j := J_Y_pressed) 1 (pc' := 207) (lv' := [(1, .int w0), (0, .ref v0), (2, .int v2), (3, .int v3), (4, .int v4), (5, .int v5)]) (st' := [.int 0, .int v3, .ref z4]) rfl ?_
          exact wp_lv (lv' := [(0, .ref v0), (1, .int w0), (2, .int v2)]) rfl ⟨rfl, rfl, rfl, trivial⟩ (x_Y_pressed_207 e c)
    · exact wp_lv (lv' := [(0, .ref v0), (1, .int w0), (2, .int v2), (3, .int v3), (5, .int v5)]) rfl ⟨rfl, rfl, rfl, rfl, rfl, trivial⟩ (x_Y_pressed_211 e c)
  · refine wp_p (j := J_Y_pressed) 2 (pc' := 134) (lv' := [(1, .int w0), (0, .ref v0), (2, .int v2), (3, .int v3), (4, .int v4), (5, .int v5)]) (st' := [.ref v0, .ref v0]) rfl ?_
    refine x_gQ e rfl rfl fd_12_59 rfl (fun z7 e => ?_)
    refine wp_p (j := J_Y_pressed) 7 (pc' := 148) (lv' := [(1, .int w0), (0, .ref v0), (2, .int v2), (3, .int v3), (4, .int v4), (5, .int v5)]) (st' := [.ref v0, .int (60 * v4), .int (60 * v4), .ref z7, .ref v0]) rfl ?_
    refine x_gQ e rfl rfl fd_12_60 rfl (fun z8 e => ?_)
    refine wp_p (j := J_Y_pressed) 1 (pc' := 153) (lv' := [(1, .int w0), (0, .ref v0), (2, .int v2), (3, .int v3), (4, .int v4), (5, .int v5)]) (st' := [.int v4, .ref z8, .int (60 * v4), .int (60 * v4), .ref z7, .ref v0]) rfl ?_
    refine x_aI e rfl rfl (fun z9 e => ?_)
    refine wp_p (j := J_Y_pressed) 2 (pc' := 156) (lv' := [(1, .int w0), (0, .ref v0), (2, .int v2), (3, .int v3), (4, .int v4), (5, .int v5)]) (st' := [.int 1, .int ((60 * v4) + z9), .int (60 * v4), .ref z7, .ref v0]) rfl ?_
    refine x_cv2 (As := [.ref z7, .int (60 * v4), .int ((60 * v4) + z9), .int 1]) (rest := []) Value.int e rfl rfl rfl rfl rfl rfl (fun h => d_Y_refer h ⟨rfl, rfl⟩) (fun z10 g11 e => ?_)
    refine z_eq e rfl (fun e => ?_) (fun e => ?_)
    · refine wp_p (j := J_Y_pressed) 2 (pc' := 9) (lv' := [(2, .int (v2 + 1)), (1, .int w0), (0, .ref v0), (3, .int v3), (4, .int v4), (5, .int v5)]) (st' := []) rfl ?_
      have e := Option.some.inj e; subst e; exact wp_lv (lv' := [(0, .ref v0), (1, .int w0), (2, .int (v2 + 1))]) rfl ⟨rfl, rfl, rfl, trivial⟩ c
    · refine wp_p (j := J_Y_pressed) 1 (pc' := 163) (lv' := [(1, .int w0), (0, .ref v0), (2, .int v2), (3, .int v3), (4, .int v4), (5, .int v5)]) (st' := [.ref v0]) rfl ?_
      refine x_cv0 (As := []) (rest := []) e rfl rfl rfl rfl rfl rfl (fun h => d_Y_visitResult h ⟨rfl, rfl⟩) (fun g12 e => ?_)
      refine wp_p (j := J_Y_pressed) 3 (pc' := 9) (lv' := [(2, .int (v2 + 1)), (1, .int w0), (0, .ref v0), (3, .int v3), (4, .int v4), (5, .int v5)]) (st' := []) rfl ?_
      have e := Option.some.inj e; subst e; exact wp_lv (lv' := [(0, .ref v0), (1, .int w0), (2, .int (v2 + 1))]) rfl ⟨rfl, rfl, rfl, trivial⟩ c
noncomputable def k_Y_pressed_120 (v0 : Nat) (v2 : Int32) (v3 : Int32) (v4 : Int32) (v5 : Int32) (g : g_S) : Option ((Int32 × Int32 × g_S) ⊕ (g_S)) :=
  k_Y_pressed_125 v0 v2 v3 v4 v5 1 g
set_option maxRecDepth 20000 in
theorem x_Y_pressed_120 {L : Nat} {xs : Nat → Int32} {Q : Option Value → ab_H → Prop} {v0 : Nat} {v2 : Int32} {v3 : Int32} {v4 : Int32} {v5 : Int32} {g : g_S} {out : (Int32 × Int32 × g_S) ⊕ (g_S)} (e : k_Y_pressed_120 v0 v2 v3 v4 v5 g = some out) (c : cL_Y_pressed_9 L xs Q v0 out) : wp (ab_ext L xs) J_Y_pressed 120 [(0, .ref v0), (2, .int v2), (3, .int v3), (4, .int v4), (5, .int v5)] [] (hp g) Q := by
  unfold k_Y_pressed_120 at e
  refine wp_p (j := J_Y_pressed) 2 (pc' := 125) (lv' := [(0, .ref v0), (2, .int v2), (3, .int v3), (4, .int v4), (5, .int v5)]) (st' := [.int 1]) rfl ?_
  exact wp_lv (lv' := [(0, .ref v0), (2, .int v2), (3, .int v3), (4, .int v4), (5, .int v5)]) rfl ⟨rfl, rfl, rfl, rfl, rfl, trivial⟩ (x_Y_pressed_125 e c)
noncomputable def k_Y_pressed_95 (v0 : Nat) (v2 : Int32) (v3 : Int32) (v4 : Int32) (w0 : Int32) (g : g_S) : Option ((Int32 × Int32 × g_S) ⊕ (g_S)) :=
  if v4 = (-1) then
    (rQ g 112 v0 46).bind fun z1 =>
    (aI g 0 z1 v3).bind fun z2 =>
    if z2 = 13 then
      k_Y_pressed_120 v0 v2 v3 v4 w0 g
    else
      if w0 = (-1) then
        k_Y_pressed_125 v0 v2 v3 v4 w0 0 g
      else
        k_Y_pressed_120 v0 v2 v3 v4 w0 g
  else
    k_Y_pressed_120 v0 v2 v3 v4 w0 g
set_option maxRecDepth 20000 in
theorem x_Y_pressed_95 {L : Nat} {xs : Nat → Int32} {Q : Option Value → ab_H → Prop} {v0 : Nat} {v2 : Int32} {v3 : Int32} {v4 : Int32} {w0 : Int32} {g : g_S} {out : (Int32 × Int32 × g_S) ⊕ (g_S)} (e : k_Y_pressed_95 v0 v2 v3 v4 w0 g = some out) (c : cL_Y_pressed_9 L xs Q v0 out) : wp (ab_ext L xs) J_Y_pressed 95 [(0, .ref v0), (2, .int v2), (3, .int v3), (4, .int v4)] [.int w0] (hp g) Q := by
  unfold k_Y_pressed_95 at e
  refine wp_p (j := J_Y_pressed) 3 (pc' := 100) (lv' := [(5, .int w0), (0, .ref v0), (2, .int v2), (3, .int v3), (4, .int v4)]) (st' := [.int (-1), .int v4]) rfl ?_
  refine x_ne e rfl (fun e => ?_) (fun e => ?_)
  · refine wp_p (j := J_Y_pressed) 1 (pc' := 104) (lv' := [(5, .int w0), (0, .ref v0), (2, .int v2), (3, .int v3), (4, .int v4)]) (st' := [.ref v0]) rfl ?_
    refine x_gQ e rfl rfl fd_12_46 rfl (fun z1 e => ?_)
    refine wp_p (j := J_Y_pressed) 1 (pc' := 108) (lv' := [(5, .int w0), (0, .ref v0), (2, .int v2), (3, .int v3), (4, .int v4)]) (st' := [.int v3, .ref z1]) rfl ?_
    refine x_aI e rfl rfl (fun z2 e => ?_)
    refine wp_p (j := J_Y_pressed) 1 (pc' := 111) (lv' := [(5, .int w0), (0, .ref v0), (2, .int v2), (3, .int v3), (4, .int v4)]) (st' := [.int 13, .int z2]) rfl ?_
    refine x_eq e rfl (fun e => ?_) (fun e => ?_)
    · exact wp_lv (lv' := [(0, .ref v0), (2, .int v2), (3, .int v3), (4, .int v4), (5, .int w0)]) rfl ⟨rfl, rfl, rfl, rfl, rfl, trivial⟩ (x_Y_pressed_120 e c)
    · refine wp_p (j := J_Y_pressed) 2 (pc' := 117) (lv' := [(5, .int w0), (0, .ref v0), (2, .int v2), (3, .int v3), (4, .int v4)]) (st' := [.int (-1), .int w0]) rfl ?_
      refine x_eq e rfl (fun e => ?_) (fun e => ?_)
      · refine wp_p (j := J_Y_pressed) 1 (pc' := 125) (lv' := [(5, .int w0), (0, .ref v0), (2, .int v2), (3, .int v3), (4, .int v4)]) (st' := [.int 0]) rfl ?_
        exact wp_lv (lv' := [(0, .ref v0), (2, .int v2), (3, .int v3), (4, .int v4), (5, .int w0)]) rfl ⟨rfl, rfl, rfl, rfl, rfl, trivial⟩ (x_Y_pressed_125 e c)
      · exact wp_lv (lv' := [(0, .ref v0), (2, .int v2), (3, .int v3), (4, .int v4), (5, .int w0)]) rfl ⟨rfl, rfl, rfl, rfl, rfl, trivial⟩ (x_Y_pressed_120 e c)
  · exact wp_lv (lv' := [(0, .ref v0), (2, .int v2), (3, .int v3), (4, .int v4), (5, .int w0)]) rfl ⟨rfl, rfl, rfl, rfl, rfl, trivial⟩ (x_Y_pressed_120 e c)
noncomputable def k_Y_pressed_73 (v0 : Nat) (v2 : Int32) (v3 : Int32) (w0 : Int32) (g : g_S) : Option ((Int32 × Int32 × g_S) ⊕ (g_S)) :=
  (rQ g 112 v0 46).bind fun z1 =>
  (aI g 0 z1 v3).bind fun z2 =>
  if z2 = 14 then
    (vc g 112 v0 (M_Y_formOf v0 v3 g)).bind fun z3 =>
    k_Y_pressed_95 v0 v2 v3 w0 z3 g
  else
    k_Y_pressed_95 v0 v2 v3 w0 (-1) g
set_option maxRecDepth 20000 in
theorem x_Y_pressed_73 {L : Nat} {xs : Nat → Int32} {Q : Option Value → ab_H → Prop} {v0 : Nat} {v2 : Int32} {v3 : Int32} {w0 : Int32} {g : g_S} {out : (Int32 × Int32 × g_S) ⊕ (g_S)} (e : k_Y_pressed_73 v0 v2 v3 w0 g = some out) (c : cL_Y_pressed_9 L xs Q v0 out) : wp (ab_ext L xs) J_Y_pressed 73 [(0, .ref v0), (2, .int v2), (3, .int v3)] [.int w0] (hp g) Q := by
  unfold k_Y_pressed_73 at e
  refine wp_p (j := J_Y_pressed) 2 (pc' := 76) (lv' := [(4, .int w0), (0, .ref v0), (2, .int v2), (3, .int v3)]) (st' := [.ref v0]) rfl ?_
  refine x_gQ e rfl rfl fd_12_46 rfl (fun z1 e => ?_)
  refine wp_p (j := J_Y_pressed) 1 (pc' := 80) (lv' := [(4, .int w0), (0, .ref v0), (2, .int v2), (3, .int v3)]) (st' := [.int v3, .ref z1]) rfl ?_
  refine x_aI e rfl rfl (fun z2 e => ?_)
  refine wp_p (j := J_Y_pressed) 1 (pc' := 83) (lv' := [(4, .int w0), (0, .ref v0), (2, .int v2), (3, .int v3)]) (st' := [.int 14, .int z2]) rfl ?_
  refine x_ne e rfl (fun e => ?_) (fun e => ?_)
  · refine wp_p (j := J_Y_pressed) 2 (pc' := 88) (lv' := [(4, .int w0), (0, .ref v0), (2, .int v2), (3, .int v3)]) (st' := [.int v3, .ref v0]) rfl ?_
    refine x_cv1 (As := [.int v3]) (rest := []) Value.int e rfl rfl rfl rfl rfl rfl (fun h => d_Y_formOf h ⟨rfl, rfl⟩) (fun z3 e => ?_)
    refine wp_p (j := J_Y_pressed) 1 (pc' := 95) (lv' := [(4, .int w0), (0, .ref v0), (2, .int v2), (3, .int v3)]) (st' := [.int z3]) rfl ?_
    exact wp_lv (lv' := [(0, .ref v0), (2, .int v2), (3, .int v3), (4, .int w0)]) rfl ⟨rfl, rfl, rfl, rfl, trivial⟩ (x_Y_pressed_95 e c)
  · refine wp_p (j := J_Y_pressed) 1 (pc' := 95) (lv' := [(4, .int w0), (0, .ref v0), (2, .int v2), (3, .int v3)]) (st' := [.int (-1)]) rfl ?_
    exact wp_lv (lv' := [(0, .ref v0), (2, .int v2), (3, .int v3), (4, .int w0)]) rfl ⟨rfl, rfl, rfl, rfl, trivial⟩ (x_Y_pressed_95 e c)
noncomputable def b_Y_pressed_9 (v0 : Nat) (v1 : Int32) (v2 : Int32) (g : g_S) : Option ((Int32 × Int32 × g_S) ⊕ (g_S)) :=
  (rI g 112 v0 181).bind fun z1 =>
  if v2 < z1 then
    if v1 = 0 then
      (rQ g 112 v0 179).bind fun z2 =>
      (aI g 0 z2 v2).bind fun z3 =>
      (vc g 112 v0 (M_Y_isThere v0 v2 g)).bind fun z4 =>
      if z4 = 0 then
        some (.inl (v1, v2 + 1, g))
      else
        (rQ g 112 v0 46).bind fun z5 =>
        (aI g 0 z5 z3).bind fun z6 =>
        if z6 = 17 then
          some (.inl (v1, v2 + 1, g))
        else
          (rQ g 112 v0 46).bind fun z7 =>
          (aI g 0 z7 z3).bind fun z8 =>
          if z8 = 7 then
            (vc g 112 v0 (M_Y_attributeOf v0 z3 202312 g)).bind fun z9 =>
            k_Y_pressed_73 v0 v2 z3 z9 g
          else
            k_Y_pressed_73 v0 v2 z3 (-1) g
    else
      some (.inr g)
  else
    some (.inr g)
set_option maxRecDepth 20000 in
theorem y_Y_pressed_9 {L : Nat} {xs : Nat → Int32} {Q : Option Value → ab_H → Prop} {v0 : Nat} {v1 : Int32} {v2 : Int32} {g : g_S} {out : (Int32 × Int32 × g_S) ⊕ (g_S)} (e : b_Y_pressed_9 v0 v1 v2 g = some out) (c : cL_Y_pressed_9 L xs Q v0 out) : wp (ab_ext L xs) J_Y_pressed 9 [(0, .ref v0), (1, .int v1), (2, .int v2)] [] (hp g) Q := by
  unfold b_Y_pressed_9 at e
  refine wp_p (j := J_Y_pressed) 2 (pc' := 11) (lv' := [(0, .ref v0), (1, .int v1), (2, .int v2)]) (st' := [.ref v0, .int v2]) rfl ?_
  refine x_gI e rfl rfl fd_12_181 rfl (fun z1 e => ?_)
  refine x_ge e rfl (fun e => ?_) (fun e => ?_)
  · refine wp_p (j := J_Y_pressed) 1 (pc' := 18) (lv' := [(0, .ref v0), (1, .int v1), (2, .int v2)]) (st' := [.int v1]) rfl ?_
    refine z_ne e rfl (fun e => ?_) (fun e => ?_)
    · refine wp_p (j := J_Y_pressed) 1 (pc' := 22) (lv' := [(0, .ref v0), (1, .int v1), (2, .int v2)]) (st' := [.ref v0]) rfl ?_
      refine x_gQ e rfl rfl fd_12_179 rfl (fun z2 e => ?_)
      refine wp_p (j := J_Y_pressed) 1 (pc' := 26) (lv' := [(0, .ref v0), (1, .int v1), (2, .int v2)]) (st' := [.int v2, .ref z2]) rfl ?_
      refine x_aI e rfl rfl (fun z3 e => ?_)
      refine wp_p (j := J_Y_pressed) 3 (pc' := 30) (lv' := [(3, .int z3), (0, .ref v0), (1, .int v1), (2, .int v2)]) (st' := [.int v2, .ref v0]) rfl ?_
      refine x_cv1 (As := [.int v2]) (rest := []) Value.int e rfl rfl rfl rfl rfl rfl (fun h => d_Y_isThere h ⟨rfl, rfl⟩) (fun z4 e => ?_)
      refine z_eq e rfl (fun e => ?_) (fun e => ?_)
      · refine wp_p (j := J_Y_pressed) 2 (pc' := 9) (lv' := [(2, .int (v2 + 1)), (3, .int z3), (0, .ref v0), (1, .int v1)]) (st' := []) rfl ?_
        have e := Option.some.inj e; subst e; exact wp_lv (lv' := [(0, .ref v0), (1, .int v1), (2, .int (v2 + 1))]) rfl ⟨rfl, rfl, rfl, trivial⟩ c
      · refine wp_p (j := J_Y_pressed) 1 (pc' := 37) (lv' := [(3, .int z3), (0, .ref v0), (1, .int v1), (2, .int v2)]) (st' := [.ref v0]) rfl ?_
        refine x_gQ e rfl rfl fd_12_46 rfl (fun z5 e => ?_)
        refine wp_p (j := J_Y_pressed) 1 (pc' := 41) (lv' := [(3, .int z3), (0, .ref v0), (1, .int v1), (2, .int v2)]) (st' := [.int z3, .ref z5]) rfl ?_
        refine x_aI e rfl rfl (fun z6 e => ?_)
        refine wp_p (j := J_Y_pressed) 1 (pc' := 44) (lv' := [(3, .int z3), (0, .ref v0), (1, .int v1), (2, .int v2)]) (st' := [.int 17, .int z6]) rfl ?_
        refine x_ne e rfl (fun e => ?_) (fun e => ?_)
        · refine wp_p (j := J_Y_pressed) 3 (pc' := 9) (lv' := [(2, .int (v2 + 1)), (3, .int z3), (0, .ref v0), (1, .int v1)]) (st' := []) rfl ?_
          have e := Option.some.inj e; subst e; exact wp_lv (lv' := [(0, .ref v0), (1, .int v1), (2, .int (v2 + 1))]) rfl ⟨rfl, rfl, rfl, trivial⟩ c
        · refine wp_p (j := J_Y_pressed) 1 (pc' := 51) (lv' := [(3, .int z3), (0, .ref v0), (1, .int v1), (2, .int v2)]) (st' := [.ref v0]) rfl ?_
          refine x_gQ e rfl rfl fd_12_46 rfl (fun z7 e => ?_)
          refine wp_p (j := J_Y_pressed) 1 (pc' := 55) (lv' := [(3, .int z3), (0, .ref v0), (1, .int v1), (2, .int v2)]) (st' := [.int z3, .ref z7]) rfl ?_
          refine x_aI e rfl rfl (fun z8 e => ?_)
          refine wp_p (j := J_Y_pressed) 1 (pc' := 58) (lv' := [(3, .int z3), (0, .ref v0), (1, .int v1), (2, .int v2)]) (st' := [.int 7, .int z8]) rfl ?_
          refine x_ne e rfl (fun e => ?_) (fun e => ?_)
          · refine wp_p (j := J_Y_pressed) 2 (pc' := 63) (lv' := [(3, .int z3), (0, .ref v0), (1, .int v1), (2, .int v2)]) (st' := [.int z3, .ref v0]) rfl ?_
            refine x_l2 (xl := 202312) rfl rfl rfl ?_
            refine x_cv1 (As := [.int z3, .long 202312]) (rest := []) Value.int e rfl rfl rfl rfl rfl rfl (fun h => d_Y_attributeOf h ⟨rfl, rfl⟩) (fun z9 e => ?_)
            refine wp_p (j := J_Y_pressed) 1 (pc' := 73) (lv' := [(3, .int z3), (0, .ref v0), (1, .int v1), (2, .int v2)]) (st' := [.int z9]) rfl ?_
            exact wp_lv (lv' := [(0, .ref v0), (2, .int v2), (3, .int z3)]) rfl ⟨rfl, rfl, rfl, trivial⟩ (x_Y_pressed_73 e c)
          · refine wp_p (j := J_Y_pressed) 1 (pc' := 73) (lv' := [(3, .int z3), (0, .ref v0), (1, .int v1), (2, .int v2)]) (st' := [.int (-1)]) rfl ?_
            exact wp_lv (lv' := [(0, .ref v0), (2, .int v2), (3, .int z3)]) rfl ⟨rfl, rfl, rfl, trivial⟩ (x_Y_pressed_73 e c)
    · have e := Option.some.inj e; subst e; exact wp_lv (lv' := []) rfl trivial c
  · have e := Option.some.inj e; subst e; exact wp_lv (lv' := []) rfl trivial c
noncomputable def L_Y_pressed_9 (v0 : Nat) (v1 : Int32) (v2 : Int32) (g : g_S) : Option (g_S) := it (fun s : Int32 × Int32 × g_S => b_Y_pressed_9 v0 s.1 s.2.1 s.2.2) (v1, v2, g)
theorem l_Y_pressed_9 {L : Nat} {xs : Nat → Int32} {Q : Option Value → ab_H → Prop} {v0 : Nat} {v1 : Int32} {v2 : Int32} {g : g_S} {r : g_S} (e : L_Y_pressed_9 v0 v1 v2 g = some r) (c : cL_Y_pressed_9 L xs Q v0 (.inr r)) : wp (ab_ext L xs) J_Y_pressed 9 [(0, .ref v0), (1, .int v1), (2, .int v2)] [] (hp g) Q :=
  it_wp (P := fun s : Int32 × Int32 × g_S => wp (ab_ext L xs) J_Y_pressed 9 [(0, .ref v0), (1, .int s.1), (2, .int s.2.1)] [] (hp s.2.2) Q) (E := fun r => cL_Y_pressed_9 L xs Q v0 (.inr r)) (fun s out e c => y_Y_pressed_9 e (by cases out <;> exact c)) e c
theorem L_Y_pressed_9_eq (v0 : Nat) (v1 : Int32) (v2 : Int32) (g : g_S) : L_Y_pressed_9 v0 v1 v2 g = itc (b_Y_pressed_9 v0 v1 v2 g) (fun s => L_Y_pressed_9 v0 s.1 s.2.1 s.2.2) := it_eq2 (fun s : Int32 × Int32 × g_S => b_Y_pressed_9 v0 s.1 s.2.1 s.2.2) (v1, v2, g)
noncomputable def M_Y_pressed (v0 : Nat) (g : g_S) : Option g_S :=
  (wI g 112 v0 150 (-1)).bind fun g1 =>
  (L_Y_pressed_9 v0 0 0 g1).bind <| fun g4 =>
  some g4
set_option maxRecDepth 20000 in
theorem d_Y_pressed {L : Nat} {xs : Nat → Int32} {Q : Option Value → ab_H → Prop} {v0 : Nat} {g : g_S} {out : g_S} (e : M_Y_pressed v0 g = some out) (c : Q none (hp out)) : mw (ab_ext L xs) J_Y_pressed [.ref v0] (hp g) Q := by
  unfold M_Y_pressed at e
  refine wp_p (j := J_Y_pressed) 4 (pc' := 4) (lv' := [(1, .int 0), (0, .ref v0)]) (st' := [.int (-1), .ref v0]) rfl ?_
  refine x_pI e rfl rfl fw_12_150 rfl (fun g1 e => ?_)
  refine wp_p (j := J_Y_pressed) 2 (pc' := 9) (lv' := [(2, .int 0), (1, .int 0), (0, .ref v0)]) (st' := []) rfl ?_
  obtain ⟨g4, h3, e⟩ := bd e
  refine wp_lv (lv' := [(0, .ref v0), (1, .int 0), (2, .int 0)]) rfl ⟨rfl, rfl, rfl, trivial⟩ ?_
  refine l_Y_pressed_9 h3 ?_
  show wp (ab_ext L xs) J_Y_pressed 258 [] [] (hp g4) Q
  have e := Option.some.inj e; subst e; exact wp_vret rfl rfl c
noncomputable def k_Y_press_47 (v0 : Nat) (v3 : Int32) (g : g_S) : Option (Int32 × g_S) :=
  (vc g 112 v0 (M_Y_settle v0 g)).bind fun g1 =>
  (vc g1 112 v0 (M_Y_changed v0 g1)).bind fun g2 =>
  some (v3, g2)
set_option maxRecDepth 20000 in
theorem x_Y_press_47 {L : Nat} {xs : Nat → Int32} {Q : Option Value → ab_H → Prop} {v0 : Nat} {v3 : Int32} {g : g_S} {out : Int32 × g_S} (e : k_Y_press_47 v0 v3 g = some out) (c : Q (some (.int out.1)) (hp out.2)) : wp (ab_ext L xs) J_Y_press 47 [(0, .ref v0), (3, .int v3)] [] (hp g) Q := by
  unfold k_Y_press_47 at e
  refine wp_p (j := J_Y_press) 1 (pc' := 48) (lv' := [(0, .ref v0), (3, .int v3)]) (st' := [.ref v0]) rfl ?_
  refine x_cv0 (As := []) (rest := []) e rfl rfl rfl rfl rfl rfl (fun h => d_Y_settle h ⟨rfl, rfl⟩) (fun g1 e => ?_)
  refine wp_p (j := J_Y_press) 1 (pc' := 52) (lv' := [(0, .ref v0), (3, .int v3)]) (st' := [.ref v0]) rfl ?_
  refine x_cv0 (As := []) (rest := []) e rfl rfl rfl rfl rfl rfl (fun h => d_Y_changed h ⟨rfl, rfl⟩) (fun g2 e => ?_)
  refine wp_p (j := J_Y_press) 1 (pc' := 56) (lv' := [(0, .ref v0), (3, .int v3)]) (st' := [.int v3]) rfl ?_
  have e := Option.some.inj e; subst e; exact wp_iret (ty := .int) rfl rfl rfl c
noncomputable def M_Y_press (v0 : Nat) (v1 : Int32) (v2 : Int32) (g : g_S) : Option (Int32 × g_S) :=
  c2 (vc g 112 v0 (M_Y_paint v0 v1 v2 g)) fun z1 g2 =>
  if z1 = 0 then
    some ((-1), g2)
  else
    (rI g2 112 v0 147).bind fun z3 =>
    if z3 = (-1) then
      some ((-1), g2)
    else
      (rI g2 112 v0 147).bind fun z4 =>
      (vc g2 112 v0 (M_Y_begin v0 g2)).bind fun g5 =>
      (vc g5 112 v0 (M_Y_wayUp v0 z4 g5)).bind fun g6 =>
      c2 (vc g6 112 v0 (M_Y_goesUp v0 21044478415 g6)) fun z7 g8 =>
      if z7 = 0 then
        k_Y_press_47 v0 z4 g8
      else
        (vc g8 112 v0 (M_Y_pressed v0 g8)).bind fun g9 =>
        k_Y_press_47 v0 z4 g9
set_option maxRecDepth 20000 in
theorem d_Y_press {L : Nat} {xs : Nat → Int32} {Q : Option Value → ab_H → Prop} {v0 : Nat} {v1 : Int32} {v2 : Int32} {g : g_S} {out : Int32 × g_S} (e : M_Y_press v0 v1 v2 g = some out) (c : Q (some (.int out.1)) (hp out.2)) : mw (ab_ext L xs) J_Y_press [.ref v0, .int v1, .int v2] (hp g) Q := by
  unfold M_Y_press at e
  refine wp_p (j := J_Y_press) 3 (pc' := 3) (lv' := [(0, .ref v0), (1, .int v1), (2, .int v2)]) (st' := [.int v2, .int v1, .ref v0]) rfl ?_
  refine x_cv2 (As := [.int v1, .int v2]) (rest := []) Value.int e rfl rfl rfl rfl rfl rfl (fun h => d_Y_paint h ⟨rfl, rfl⟩) (fun z1 g2 e => ?_)
  refine z_eq e rfl (fun e => ?_) (fun e => ?_)
  · refine wp_p (j := J_Y_press) 1 (pc' := 18) (lv' := [(0, .ref v0), (1, .int v1), (2, .int v2)]) (st' := [.int (-1)]) rfl ?_
    have e := Option.some.inj e; subst e; exact wp_iret (ty := .int) rfl rfl rfl c
  · refine wp_p (j := J_Y_press) 1 (pc' := 10) (lv' := [(0, .ref v0), (1, .int v1), (2, .int v2)]) (st' := [.ref v0]) rfl ?_
    refine x_gI e rfl rfl fd_12_147 rfl (fun z3 e => ?_)
    refine wp_p (j := J_Y_press) 1 (pc' := 14) (lv' := [(0, .ref v0), (1, .int v1), (2, .int v2)]) (st' := [.int (-1), .int z3]) rfl ?_
    refine x_ne e rfl (fun e => ?_) (fun e => ?_)
    · refine wp_p (j := J_Y_press) 1 (pc' := 18) (lv' := [(0, .ref v0), (1, .int v1), (2, .int v2)]) (st' := [.int (-1)]) rfl ?_
      have e := Option.some.inj e; subst e; exact wp_iret (ty := .int) rfl rfl rfl c
    · refine wp_p (j := J_Y_press) 1 (pc' := 20) (lv' := [(0, .ref v0), (1, .int v1), (2, .int v2)]) (st' := [.ref v0]) rfl ?_
      refine x_gI e rfl rfl fd_12_147 rfl (fun z4 e => ?_)
      refine wp_p (j := J_Y_press) 2 (pc' := 25) (lv' := [(3, .int z4), (0, .ref v0), (1, .int v1), (2, .int v2)]) (st' := [.ref v0]) rfl ?_
      refine x_cv0 (As := []) (rest := []) e rfl rfl rfl rfl rfl rfl (fun h => d_Y_begin h ⟨rfl, rfl⟩) (fun g5 e => ?_)
      refine wp_p (j := J_Y_press) 2 (pc' := 30) (lv' := [(3, .int z4), (0, .ref v0), (1, .int v1), (2, .int v2)]) (st' := [.int z4, .ref v0]) rfl ?_
      refine x_cv0 (As := [.int z4]) (rest := []) e rfl rfl rfl rfl rfl rfl (fun h => d_Y_wayUp h ⟨rfl, rfl⟩) (fun g6 e => ?_)
      refine wp_p (j := J_Y_press) 1 (pc' := 34) (lv' := [(3, .int z4), (0, .ref v0), (1, .int v1), (2, .int v2)]) (st' := [.ref v0]) rfl ?_
      refine x_l2 (xl := 21044478415) rfl rfl rfl ?_
      refine x_cv2 (As := [.long 21044478415]) (rest := []) Value.int e rfl rfl rfl rfl rfl rfl (fun h => d_Y_goesUp h ⟨rfl, rfl⟩) (fun z7 g8 e => ?_)
      refine z_eq e rfl (fun e => ?_) (fun e => ?_)
      · exact wp_lv (lv' := [(0, .ref v0), (3, .int z4)]) rfl ⟨rfl, rfl, trivial⟩ (x_Y_press_47 e c)
      · refine wp_p (j := J_Y_press) 1 (pc' := 44) (lv' := [(3, .int z4), (0, .ref v0), (1, .int v1), (2, .int v2)]) (st' := [.ref v0]) rfl ?_
        refine x_cv0 (As := []) (rest := []) e rfl rfl rfl rfl rfl rfl (fun h => d_Y_pressed h ⟨rfl, rfl⟩) (fun g9 e => ?_)
        exact wp_lv (lv' := [(0, .ref v0), (3, .int z4)]) rfl ⟨rfl, rfl, trivial⟩ (x_Y_press_47 e c)
noncomputable def M_Y_focused (v0 : Nat) (g : g_S) : Option Int32 :=
  (rI g 112 v0 150).bind fun z1 =>
  if z1 = (-1) then
    some 0
  else
    (rQ g 112 v0 45).bind fun z2 =>
    (rI g 112 v0 150).bind fun z3 =>
    (aI g 2 z2 z3).bind fun z4 =>
    if z4 = 0 then
      some 0
    else
      (rQ g 112 v0 55).bind fun z5 =>
      (rI g 112 v0 150).bind fun z6 =>
      (aI g 0 z5 z6).bind fun z7 =>
      (rI g 112 v0 151).bind fun z8 =>
      if z7 = z8 then
        some 1
      else
        some 0
set_option maxRecDepth 20000 in
theorem d_Y_focused {L : Nat} {xs : Nat → Int32} {Q : Option Value → ab_H → Prop} {v0 : Nat} {g : g_S} {out : Int32} (e : M_Y_focused v0 g = some out) (c : Q (some (.int out)) (hp g)) : mw (ab_ext L xs) J_Y_focused [.ref v0] (hp g) Q := by
  unfold M_Y_focused at e
  refine wp_p (j := J_Y_focused) 1 (pc' := 1) (lv' := [(0, .ref v0)]) (st' := [.ref v0]) rfl ?_
  refine x_gI e rfl rfl fd_12_150 rfl (fun z1 e => ?_)
  refine wp_p (j := J_Y_focused) 1 (pc' := 5) (lv' := [(0, .ref v0)]) (st' := [.int (-1), .int z1]) rfl ?_
  refine x_eq e rfl (fun e => ?_) (fun e => ?_)
  · refine wp_p (j := J_Y_focused) 1 (pc' := 41) (lv' := [(0, .ref v0)]) (st' := [.int 0]) rfl ?_
    have e := Option.some.inj e; subst e; exact wp_iret (ty := .boolean) rfl rfl (by decide) c
  · refine wp_p (j := J_Y_focused) 1 (pc' := 9) (lv' := [(0, .ref v0)]) (st' := [.ref v0]) rfl ?_
    refine x_gQ e rfl rfl fd_12_45 rfl (fun z2 e => ?_)
    refine wp_p (j := J_Y_focused) 1 (pc' := 13) (lv' := [(0, .ref v0)]) (st' := [.ref v0, .ref z2]) rfl ?_
    refine x_gI e rfl rfl fd_12_150 rfl (fun z3 e => ?_)
    refine x_aB e rfl (.inr rfl) rfl (fun z4 e => ?_)
    refine z_eq e rfl (fun e => ?_) (fun e => ?_)
    · refine wp_p (j := J_Y_focused) 1 (pc' := 41) (lv' := [(0, .ref v0)]) (st' := [.int 0]) rfl ?_
      have e := Option.some.inj e; subst e; exact wp_iret (ty := .boolean) rfl rfl (by decide) c
    · refine wp_p (j := J_Y_focused) 1 (pc' := 21) (lv' := [(0, .ref v0)]) (st' := [.ref v0]) rfl ?_
      refine x_gQ e rfl rfl fd_12_55 rfl (fun z5 e => ?_)
      refine wp_p (j := J_Y_focused) 1 (pc' := 25) (lv' := [(0, .ref v0)]) (st' := [.ref v0, .ref z5]) rfl ?_
      refine x_gI e rfl rfl fd_12_150 rfl (fun z6 e => ?_)
      refine x_aI e rfl rfl (fun z7 e => ?_)
      refine wp_p (j := J_Y_focused) 1 (pc' := 30) (lv' := [(0, .ref v0)]) (st' := [.ref v0, .int z7]) rfl ?_
      refine x_gI e rfl rfl fd_12_151 rfl (fun z8 e => ?_)
      refine x_ne e rfl (fun e => ?_) (fun e => ?_)
      · refine wp_p (j := J_Y_focused) 2 (pc' := 41) (lv' := [(0, .ref v0)]) (st' := [.int 1]) rfl ?_
        have e := Option.some.inj e; subst e; exact wp_iret (ty := .boolean) rfl rfl (by decide) c
      · refine wp_p (j := J_Y_focused) 1 (pc' := 41) (lv' := [(0, .ref v0)]) (st' := [.int 0]) rfl ?_
        have e := Option.some.inj e; subst e; exact wp_iret (ty := .boolean) rfl rfl (by decide) c
noncomputable def M_Y_typed (v0 : Nat) (v1 : Int32) (g : g_S) : Option g_S :=
  (rI g 112 v0 150).bind fun z1 =>
  if v1 = 8 then
    (rQ g 112 v0 65).bind fun z2 =>
    (rQ g 112 v0 65).bind fun z3 =>
    (aI g 0 z3 z1).bind fun z4 =>
    (sI g z2 z1 (mx 0 (z4 - 1))).bind fun g5 =>
    some g5
  else
    if v1 = 10 then
      (vc g 112 v0 (M_Y_formOf v0 z1 g)).bind fun z6 =>
      if z6 = (-1) then
        some g
      else
        (vc g 112 v0 (M_Y_sendForm v0 z6 g)).bind fun g7 =>
        some g7
    else
      (rQ g 112 v0 65).bind fun z8 =>
      (aI g 0 z8 z1).bind fun z9 =>
      if z9 < 24 then
        (rQ g 112 v0 64).bind fun z10 =>
        (rQ g 112 v0 65).bind fun z11 =>
        (aI g 0 z11 z1).bind fun z12 =>
        (sB g z10 ((24 * z1) + z12) ((Int32.toInt8 v1).toInt32)).bind fun g13 =>
        (rQ g13 112 v0 65).bind fun z14 =>
        (aI g13 0 z14 z1).bind fun z15 =>
        (sI g13 z14 z1 (z15 + 1)).bind fun g16 =>
        some g16
      else
        some g
set_option maxRecDepth 20000 in
theorem d_Y_typed {L : Nat} {xs : Nat → Int32} {Q : Option Value → ab_H → Prop} {v0 : Nat} {v1 : Int32} {g : g_S} {out : g_S} (e : M_Y_typed v0 v1 g = some out) (c : Q none (hp out)) : mw (ab_ext L xs) J_Y_typed [.ref v0, .int v1] (hp g) Q := by
  unfold M_Y_typed at e
  refine wp_p (j := J_Y_typed) 1 (pc' := 1) (lv' := [(0, .ref v0), (1, .int v1)]) (st' := [.ref v0]) rfl ?_
  refine x_gI e rfl rfl fd_12_150 rfl (fun z1 e => ?_)
  refine wp_p (j := J_Y_typed) 3 (pc' := 8) (lv' := [(2, .int z1), (0, .ref v0), (1, .int v1)]) (st' := [.int 8, .int v1]) rfl ?_
  refine x_ne e rfl (fun e => ?_) (fun e => ?_)
  · refine wp_p (j := J_Y_typed) 1 (pc' := 12) (lv' := [(2, .int z1), (0, .ref v0), (1, .int v1)]) (st' := [.ref v0]) rfl ?_
    refine x_gQ e rfl rfl fd_12_65 rfl (fun z2 e => ?_)
    refine wp_p (j := J_Y_typed) 3 (pc' := 18) (lv' := [(2, .int z1), (0, .ref v0), (1, .int v1)]) (st' := [.ref v0, .int 0, .int z1, .ref z2]) rfl ?_
    refine x_gQ e rfl rfl fd_12_65 rfl (fun z3 e => ?_)
    refine wp_p (j := J_Y_typed) 1 (pc' := 22) (lv' := [(2, .int z1), (0, .ref v0), (1, .int v1)]) (st' := [.int z1, .ref z3, .int 0, .int z1, .ref z2]) rfl ?_
    refine x_aI e rfl rfl (fun z4 e => ?_)
    refine wp_p (j := J_Y_typed) 2 (pc' := 25) (lv' := [(2, .int z1), (0, .ref v0), (1, .int v1)]) (st' := [.int (z4 - 1), .int 0, .int z1, .ref z2]) rfl ?_
    refine x_mx rfl rfl ?_
    refine x_sI e rfl rfl (fun g5 e => ?_)
    refine wp_p (j := J_Y_typed) 1 (pc' := 96) (lv' := [(2, .int z1), (0, .ref v0), (1, .int v1)]) (st' := []) rfl ?_
    have e := Option.some.inj e; subst e; exact wp_vret rfl rfl c
  · refine wp_p (j := J_Y_typed) 2 (pc' := 35) (lv' := [(2, .int z1), (0, .ref v0), (1, .int v1)]) (st' := [.int 10, .int v1]) rfl ?_
    refine x_ne e rfl (fun e => ?_) (fun e => ?_)
    · refine wp_p (j := J_Y_typed) 2 (pc' := 40) (lv' := [(2, .int z1), (0, .ref v0), (1, .int v1)]) (st' := [.int z1, .ref v0]) rfl ?_
      refine x_cv1 (As := [.int z1]) (rest := []) Value.int e rfl rfl rfl rfl rfl rfl (fun h => d_Y_formOf h ⟨rfl, rfl⟩) (fun z6 e => ?_)
      refine wp_p (j := J_Y_typed) 3 (pc' := 46) (lv' := [(3, .int z6), (2, .int z1), (0, .ref v0), (1, .int v1)]) (st' := [.int (-1), .int z6]) rfl ?_
      refine x_eq e rfl (fun e => ?_) (fun e => ?_)
      · refine wp_p (j := J_Y_typed) 1 (pc' := 96) (lv' := [(3, .int z6), (2, .int z1), (0, .ref v0), (1, .int v1)]) (st' := []) rfl ?_
        have e := Option.some.inj e; subst e; exact wp_vret rfl rfl c
      · refine wp_p (j := J_Y_typed) 2 (pc' := 51) (lv' := [(3, .int z6), (2, .int z1), (0, .ref v0), (1, .int v1)]) (st' := [.int z6, .ref v0]) rfl ?_
        refine x_cv0 (As := [.int z6]) (rest := []) e rfl rfl rfl rfl rfl rfl (fun h => d_Y_sendForm h ⟨rfl, rfl⟩) (fun g7 e => ?_)
        refine wp_p (j := J_Y_typed) 1 (pc' := 96) (lv' := [(3, .int z6), (2, .int z1), (0, .ref v0), (1, .int v1)]) (st' := []) rfl ?_
        have e := Option.some.inj e; subst e; exact wp_vret rfl rfl c
    · refine wp_p (j := J_Y_typed) 1 (pc' := 58) (lv' := [(2, .int z1), (0, .ref v0), (1, .int v1)]) (st' := [.ref v0]) rfl ?_
      refine x_gQ e rfl rfl fd_12_65 rfl (fun z8 e => ?_)
      refine wp_p (j := J_Y_typed) 1 (pc' := 62) (lv' := [(2, .int z1), (0, .ref v0), (1, .int v1)]) (st' := [.int z1, .ref z8]) rfl ?_
      refine x_aI e rfl rfl (fun z9 e => ?_)
      refine wp_p (j := J_Y_typed) 1 (pc' := 65) (lv' := [(2, .int z1), (0, .ref v0), (1, .int v1)]) (st' := [.int 24, .int z9]) rfl ?_
      refine x_ge e rfl (fun e => ?_) (fun e => ?_)
      · refine wp_p (j := J_Y_typed) 1 (pc' := 69) (lv' := [(2, .int z1), (0, .ref v0), (1, .int v1)]) (st' := [.ref v0]) rfl ?_
        refine x_gQ e rfl rfl fd_12_64 rfl (fun z10 e => ?_)
        refine wp_p (j := J_Y_typed) 4 (pc' := 77) (lv' := [(2, .int z1), (0, .ref v0), (1, .int v1)]) (st' := [.ref v0, .int (24 * z1), .ref z10]) rfl ?_
        refine x_gQ e rfl rfl fd_12_65 rfl (fun z11 e => ?_)
        refine wp_p (j := J_Y_typed) 1 (pc' := 81) (lv' := [(2, .int z1), (0, .ref v0), (1, .int v1)]) (st' := [.int z1, .ref z11, .int (24 * z1), .ref z10]) rfl ?_
        refine x_aI e rfl rfl (fun z12 e => ?_)
        refine wp_p (j := J_Y_typed) 3 (pc' := 85) (lv' := [(2, .int z1), (0, .ref v0), (1, .int v1)]) (st' := [.int ((Int32.toInt8 v1).toInt32), .int ((24 * z1) + z12), .ref z10]) rfl ?_
        refine x_sB e rfl rfl (fun g13 e => ?_)
        refine wp_p (j := J_Y_typed) 1 (pc' := 87) (lv' := [(2, .int z1), (0, .ref v0), (1, .int v1)]) (st' := [.ref v0]) rfl ?_
        refine x_gQ e rfl rfl fd_12_65 rfl (fun z14 e => ?_)
        refine wp_p (j := J_Y_typed) 2 (pc' := 92) (lv' := [(2, .int z1), (0, .ref v0), (1, .int v1)]) (st' := [.int z1, .ref z14, .int z1, .ref z14]) rfl ?_
        refine x_aI e rfl rfl (fun z15 e => ?_)
        refine wp_p (j := J_Y_typed) 2 (pc' := 95) (lv' := [(2, .int z1), (0, .ref v0), (1, .int v1)]) (st' := [.int (z15 + 1), .int z1, .ref z14]) rfl ?_
        refine x_sI e rfl rfl (fun g16 e => ?_)
        have e := Option.some.inj e; subst e; exact wp_vret rfl rfl c
      · have e := Option.some.inj e; subst e; exact wp_vret rfl rfl c
noncomputable def k_Y_key_69 (v0 : Nat) (v2 : Int32) (g : g_S) : Option (Int32 × g_S) :=
  (vc g 112 v0 (M_Y_settle v0 g)).bind fun g1 =>
  (vc g1 112 v0 (M_Y_changed v0 g1)).bind fun g2 =>
  some (v2, g2)
set_option maxRecDepth 20000 in
theorem x_Y_key_69 {L : Nat} {xs : Nat → Int32} {Q : Option Value → ab_H → Prop} {v0 : Nat} {v2 : Int32} {g : g_S} {out : Int32 × g_S} (e : k_Y_key_69 v0 v2 g = some out) (c : Q (some (.int out.1)) (hp out.2)) : wp (ab_ext L xs) J_Y_key 69 [(0, .ref v0), (2, .int v2)] [] (hp g) Q := by
  unfold k_Y_key_69 at e
  refine wp_p (j := J_Y_key) 1 (pc' := 70) (lv' := [(0, .ref v0), (2, .int v2)]) (st' := [.ref v0]) rfl ?_
  refine x_cv0 (As := []) (rest := []) e rfl rfl rfl rfl rfl rfl (fun h => d_Y_settle h ⟨rfl, rfl⟩) (fun g1 e => ?_)
  refine wp_p (j := J_Y_key) 1 (pc' := 74) (lv' := [(0, .ref v0), (2, .int v2)]) (st' := [.ref v0]) rfl ?_
  refine x_cv0 (As := []) (rest := []) e rfl rfl rfl rfl rfl rfl (fun h => d_Y_changed h ⟨rfl, rfl⟩) (fun g2 e => ?_)
  refine wp_p (j := J_Y_key) 1 (pc' := 78) (lv' := [(0, .ref v0), (2, .int v2)]) (st' := [.int v2]) rfl ?_
  have e := Option.some.inj e; subst e; exact wp_iret (ty := .int) rfl rfl rfl c
noncomputable def k_Y_key_33 (v0 : Nat) (v1 : Int32) (g : g_S) : Option (Int32 × g_S) :=
  (rI g 112 v0 150).bind fun z1 =>
  (vc g 112 v0 (M_Y_begin v0 g)).bind fun g2 =>
  (vc g2 112 v0 (M_Y_wayUp v0 z1 g2)).bind fun g3 =>
  c2 (vc g3 112 v0 (M_Y_goesUp v0 26389967 g3)) fun z4 g5 =>
  if z4 = 0 then
    k_Y_key_69 v0 z1 g5
  else
    (vc g5 112 v0 (M_Y_focused v0 g5)).bind fun z6 =>
    if z6 = 0 then
      k_Y_key_69 v0 z1 g5
    else
      (vc g5 112 v0 (M_Y_typed v0 v1 g5)).bind fun g7 =>
      k_Y_key_69 v0 z1 g7
set_option maxRecDepth 20000 in
theorem x_Y_key_33 {L : Nat} {xs : Nat → Int32} {Q : Option Value → ab_H → Prop} {v0 : Nat} {v1 : Int32} {g : g_S} {out : Int32 × g_S} (e : k_Y_key_33 v0 v1 g = some out) (c : Q (some (.int out.1)) (hp out.2)) : wp (ab_ext L xs) J_Y_key 33 [(0, .ref v0), (1, .int v1)] [] (hp g) Q := by
  unfold k_Y_key_33 at e
  refine wp_p (j := J_Y_key) 1 (pc' := 34) (lv' := [(0, .ref v0), (1, .int v1)]) (st' := [.ref v0]) rfl ?_
  refine x_gI e rfl rfl fd_12_150 rfl (fun z1 e => ?_)
  refine wp_p (j := J_Y_key) 2 (pc' := 39) (lv' := [(2, .int z1), (0, .ref v0), (1, .int v1)]) (st' := [.ref v0]) rfl ?_
  refine x_cv0 (As := []) (rest := []) e rfl rfl rfl rfl rfl rfl (fun h => d_Y_begin h ⟨rfl, rfl⟩) (fun g2 e => ?_)
  refine wp_p (j := J_Y_key) 2 (pc' := 44) (lv' := [(2, .int z1), (0, .ref v0), (1, .int v1)]) (st' := [.int z1, .ref v0]) rfl ?_
  refine x_cv0 (As := [.int z1]) (rest := []) e rfl rfl rfl rfl rfl rfl (fun h => d_Y_wayUp h ⟨rfl, rfl⟩) (fun g3 e => ?_)
  refine wp_p (j := J_Y_key) 1 (pc' := 48) (lv' := [(2, .int z1), (0, .ref v0), (1, .int v1)]) (st' := [.ref v0]) rfl ?_
  refine x_l2 (xl := 26389967) rfl rfl rfl ?_
  refine x_cv2 (As := [.long 26389967]) (rest := []) Value.int e rfl rfl rfl rfl rfl rfl (fun h => d_Y_goesUp h ⟨rfl, rfl⟩) (fun z4 g5 e => ?_)
  refine z_eq e rfl (fun e => ?_) (fun e => ?_)
  · exact wp_lv (lv' := [(0, .ref v0), (2, .int z1)]) rfl ⟨rfl, rfl, trivial⟩ (x_Y_key_69 e c)
  · refine wp_p (j := J_Y_key) 1 (pc' := 58) (lv' := [(2, .int z1), (0, .ref v0), (1, .int v1)]) (st' := [.ref v0]) rfl ?_
    refine x_cv1 (As := []) (rest := []) Value.int e rfl rfl rfl rfl rfl rfl (fun h => d_Y_focused h ⟨rfl, rfl⟩) (fun z6 e => ?_)
    refine z_eq e rfl (fun e => ?_) (fun e => ?_)
    · exact wp_lv (lv' := [(0, .ref v0), (2, .int z1)]) rfl ⟨rfl, rfl, trivial⟩ (x_Y_key_69 e c)
    · refine wp_p (j := J_Y_key) 2 (pc' := 66) (lv' := [(2, .int z1), (0, .ref v0), (1, .int v1)]) (st' := [.int v1, .ref v0]) rfl ?_
      refine x_cv0 (As := [.int v1]) (rest := []) e rfl rfl rfl rfl rfl rfl (fun h => d_Y_typed h ⟨rfl, rfl⟩) (fun g7 e => ?_)
      exact wp_lv (lv' := [(0, .ref v0), (2, .int z1)]) rfl ⟨rfl, rfl, trivial⟩ (x_Y_key_69 e c)
noncomputable def M_Y_key (v0 : Nat) (v1 : Int32) (g : g_S) : Option (Int32 × g_S) :=
  (vc g 112 v0 (M_Y_focused v0 g)).bind fun z1 =>
  if z1 = 0 then
    some ((-1), g)
  else
    if v1 = 8 then
      k_Y_key_33 v0 v1 g
    else
      if v1 = 10 then
        k_Y_key_33 v0 v1 g
      else
        if v1 < 32 then
          some ((-1), g)
        else
          if 126 < v1 then
            some ((-1), g)
          else
            k_Y_key_33 v0 v1 g
set_option maxRecDepth 20000 in
theorem d_Y_key {L : Nat} {xs : Nat → Int32} {Q : Option Value → ab_H → Prop} {v0 : Nat} {v1 : Int32} {g : g_S} {out : Int32 × g_S} (e : M_Y_key v0 v1 g = some out) (c : Q (some (.int out.1)) (hp out.2)) : mw (ab_ext L xs) J_Y_key [.ref v0, .int v1] (hp g) Q := by
  unfold M_Y_key at e
  refine wp_p (j := J_Y_key) 1 (pc' := 1) (lv' := [(0, .ref v0), (1, .int v1)]) (st' := [.ref v0]) rfl ?_
  refine x_cv1 (As := []) (rest := []) Value.int e rfl rfl rfl rfl rfl rfl (fun h => d_Y_focused h ⟨rfl, rfl⟩) (fun z1 e => ?_)
  refine z_eq e rfl (fun e => ?_) (fun e => ?_)
  · refine wp_p (j := J_Y_key) 1 (pc' := 32) (lv' := [(0, .ref v0), (1, .int v1)]) (st' := [.int (-1)]) rfl ?_
    have e := Option.some.inj e; subst e; exact wp_iret (ty := .int) rfl rfl rfl c
  · refine wp_p (j := J_Y_key) 2 (pc' := 10) (lv' := [(0, .ref v0), (1, .int v1)]) (st' := [.int 8, .int v1]) rfl ?_
    refine x_eq e rfl (fun e => ?_) (fun e => ?_)
    · exact wp_lv (lv' := [(0, .ref v0), (1, .int v1)]) rfl ⟨rfl, rfl, trivial⟩ (x_Y_key_33 e c)
    · refine wp_p (j := J_Y_key) 2 (pc' := 16) (lv' := [(0, .ref v0), (1, .int v1)]) (st' := [.int 10, .int v1]) rfl ?_
      refine x_eq e rfl (fun e => ?_) (fun e => ?_)
      · exact wp_lv (lv' := [(0, .ref v0), (1, .int v1)]) rfl ⟨rfl, rfl, trivial⟩ (x_Y_key_33 e c)
      · refine wp_p (j := J_Y_key) 2 (pc' := 22) (lv' := [(0, .ref v0), (1, .int v1)]) (st' := [.int 32, .int v1]) rfl ?_
        refine x_lt e rfl (fun e => ?_) (fun e => ?_)
        · refine wp_p (j := J_Y_key) 1 (pc' := 32) (lv' := [(0, .ref v0), (1, .int v1)]) (st' := [.int (-1)]) rfl ?_
          have e := Option.some.inj e; subst e; exact wp_iret (ty := .int) rfl rfl rfl c
        · refine wp_p (j := J_Y_key) 2 (pc' := 28) (lv' := [(0, .ref v0), (1, .int v1)]) (st' := [.int 126, .int v1]) rfl ?_
          refine x_le e rfl (fun e => ?_) (fun e => ?_)
          · refine wp_p (j := J_Y_key) 1 (pc' := 32) (lv' := [(0, .ref v0), (1, .int v1)]) (st' := [.int (-1)]) rfl ?_
            have e := Option.some.inj e; subst e; exact wp_iret (ty := .int) rfl rfl rfl c
          · exact wp_lv (lv' := [(0, .ref v0), (1, .int v1)]) rfl ⟨rfl, rfl, trivial⟩ (x_Y_key_33 e c)
def cL_Y_script_28 (L : Nat) (xs : Nat → Int32) (Q : Option Value → ab_H → Prop) (v0 : Nat) (out : (Int32 × g_S) ⊕ (g_S)) : Prop := match out with
  | .inl s => wp (ab_ext L xs) J_Y_script 28 [(0, .ref v0), (2, .int s.1)] [] (hp s.2) Q
  | .inr s => wp (ab_ext L xs) J_Y_script 54 [(0, .ref v0)] [] (hp s) Q
noncomputable def b_Y_script_28 (v0 : Nat) (v2 : Int32) (g : g_S) : Option ((Int32 × g_S) ⊕ (g_S)) :=
  (rI g 112 v0 3).bind fun z1 =>
  if v2 < z1 then
    (rQ g 112 v0 159).bind fun z2 =>
    (rQ g 112 v0 2).bind fun z3 =>
    (aI g 1 z3 v2).bind fun z4 =>
    (sB g z2 v2 z4).bind fun g5 =>
    some (.inl (v2 + 1, g5))
  else
    some (.inr g)
set_option maxRecDepth 20000 in
theorem y_Y_script_28 {L : Nat} {xs : Nat → Int32} {Q : Option Value → ab_H → Prop} {v0 : Nat} {v2 : Int32} {g : g_S} {out : (Int32 × g_S) ⊕ (g_S)} (e : b_Y_script_28 v0 v2 g = some out) (c : cL_Y_script_28 L xs Q v0 out) : wp (ab_ext L xs) J_Y_script 28 [(0, .ref v0), (2, .int v2)] [] (hp g) Q := by
  unfold b_Y_script_28 at e
  refine wp_p (j := J_Y_script) 2 (pc' := 30) (lv' := [(0, .ref v0), (2, .int v2)]) (st' := [.ref v0, .int v2]) rfl ?_
  refine x_gI e rfl rfl fd_12_3 rfl (fun z1 e => ?_)
  refine x_ge e rfl (fun e => ?_) (fun e => ?_)
  · refine wp_p (j := J_Y_script) 1 (pc' := 37) (lv' := [(0, .ref v0), (2, .int v2)]) (st' := [.ref v0]) rfl ?_
    refine x_gQ e rfl rfl fd_12_159 rfl (fun z2 e => ?_)
    refine wp_p (j := J_Y_script) 2 (pc' := 42) (lv' := [(0, .ref v0), (2, .int v2)]) (st' := [.ref v0, .int v2, .ref z2]) rfl ?_
    refine x_gQ e rfl rfl fd_12_2 rfl (fun z3 e => ?_)
    refine wp_p (j := J_Y_script) 1 (pc' := 46) (lv' := [(0, .ref v0), (2, .int v2)]) (st' := [.int v2, .ref z3, .int v2, .ref z2]) rfl ?_
    refine x_aB e rfl (.inl rfl) rfl (fun z4 e => ?_)
    refine x_sB e rfl rfl (fun g5 e => ?_)
    refine wp_p (j := J_Y_script) 2 (pc' := 28) (lv' := [(2, .int (v2 + 1)), (0, .ref v0)]) (st' := []) rfl ?_
    have e := Option.some.inj e; subst e; exact wp_lv (lv' := [(0, .ref v0), (2, .int (v2 + 1))]) rfl ⟨rfl, rfl, trivial⟩ c
  · have e := Option.some.inj e; subst e; exact wp_lv (lv' := [(0, .ref v0)]) rfl ⟨rfl, trivial⟩ c
noncomputable def L_Y_script_28 (v0 : Nat) (v2 : Int32) (g : g_S) : Option (g_S) := it (fun s : Int32 × g_S => b_Y_script_28 v0 s.1 s.2) (v2, g)
theorem l_Y_script_28 {L : Nat} {xs : Nat → Int32} {Q : Option Value → ab_H → Prop} {v0 : Nat} {v2 : Int32} {g : g_S} {r : g_S} (e : L_Y_script_28 v0 v2 g = some r) (c : cL_Y_script_28 L xs Q v0 (.inr r)) : wp (ab_ext L xs) J_Y_script 28 [(0, .ref v0), (2, .int v2)] [] (hp g) Q :=
  it_wp (P := fun s : Int32 × g_S => wp (ab_ext L xs) J_Y_script 28 [(0, .ref v0), (2, .int s.1)] [] (hp s.2) Q) (E := fun r => cL_Y_script_28 L xs Q v0 (.inr r)) (fun s out e c => y_Y_script_28 e (by cases out <;> exact c)) e c
theorem L_Y_script_28_eq (v0 : Nat) (v2 : Int32) (g : g_S) : L_Y_script_28 v0 v2 g = itc (b_Y_script_28 v0 v2 g) (fun s => L_Y_script_28 v0 s.1 s.2) := it_eq2 (fun s : Int32 × g_S => b_Y_script_28 v0 s.1 s.2) (v2, g)
noncomputable def M_Y_script (v0 : Nat) (g : g_S) : Option (Int32 × g_S) :=
  c2 (vc g 112 v0 (M_Y_take v0 g)) fun z1 g2 =>
  if z1 < 0 then
    (vc g2 112 v0 (M_Y_begin v0 g2)).bind fun g3 =>
    (rI g3 112 v0 3).bind fun z4 =>
    (wI g3 112 v0 160 z4).bind fun g5 =>
    (L_Y_script_28 v0 0 g5).bind <| fun g8 =>
    (wI g8 112 v0 161 0).bind fun g9 =>
    (rQ g9 112 v0 55).bind fun z10 =>
    (aI g9 0 z10 0).bind fun z11 =>
    (wI g9 112 v0 162 z11).bind fun g12 =>
    (rI g12 112 v0 155).bind fun z13 =>
    (vc g12 112 v0 (M_Y_runScript v0 g12)).bind fun g14 =>
    (vc g14 112 v0 (M_Y_settle v0 g14)).bind fun g15 =>
    (vc g15 112 v0 (M_Y_changed v0 g15)).bind fun g16 =>
    (rI g16 112 v0 155).bind fun z17 =>
    some (z17 - z13, g16)
  else
    (M_Y_wrong z1 g2).bind fun z18 =>
    some (z18, g2)
set_option maxRecDepth 20000 in
theorem d_Y_script {L : Nat} {xs : Nat → Int32} {Q : Option Value → ab_H → Prop} {v0 : Nat} {g : g_S} {out : Int32 × g_S} (e : M_Y_script v0 g = some out) (c : Q (some (.int out.1)) (hp out.2)) : mw (ab_ext L xs) J_Y_script [.ref v0] (hp g) Q := by
  unfold M_Y_script at e
  refine wp_p (j := J_Y_script) 1 (pc' := 1) (lv' := [(0, .ref v0)]) (st' := [.ref v0]) rfl ?_
  refine x_cv2 (As := []) (rest := []) Value.int e rfl rfl rfl rfl rfl rfl (fun h => d_Y_take h ⟨rfl, rfl⟩) (fun z1 g2 e => ?_)
  refine wp_p (j := J_Y_script) 2 (pc' := 6) (lv' := [(1, .int z1), (0, .ref v0)]) (st' := [.int z1]) rfl ?_
  refine z_lt e rfl (fun e => ?_) (fun e => ?_)
  · refine wp_p (j := J_Y_script) 1 (pc' := 15) (lv' := [(1, .int z1), (0, .ref v0)]) (st' := [.ref v0]) rfl ?_
    refine x_cv0 (As := []) (rest := []) e rfl rfl rfl rfl rfl rfl (fun h => d_Y_begin h ⟨rfl, rfl⟩) (fun g3 e => ?_)
    refine wp_p (j := J_Y_script) 2 (pc' := 20) (lv' := [(1, .int z1), (0, .ref v0)]) (st' := [.ref v0, .ref v0]) rfl ?_
    refine x_gI e rfl rfl fd_12_3 rfl (fun z4 e => ?_)
    refine x_pI e rfl rfl fw_12_160 rfl (fun g5 e => ?_)
    refine wp_p (j := J_Y_script) 2 (pc' := 28) (lv' := [(2, .int 0), (1, .int z1), (0, .ref v0)]) (st' := []) rfl ?_
    obtain ⟨g8, h7, e⟩ := bd e
    refine wp_lv (lv' := [(0, .ref v0), (2, .int 0)]) rfl ⟨rfl, rfl, trivial⟩ ?_
    refine l_Y_script_28 h7 ?_
    show wp (ab_ext L xs) J_Y_script 54 [(0, .ref v0)] [] (hp g8) Q
    refine wp_p (j := J_Y_script) 2 (pc' := 56) (lv' := [(0, .ref v0)]) (st' := [.int 0, .ref v0]) rfl ?_
    refine x_pI e rfl rfl fw_12_161 rfl (fun g9 e => ?_)
    refine wp_p (j := J_Y_script) 2 (pc' := 61) (lv' := [(0, .ref v0)]) (st' := [.ref v0, .ref v0]) rfl ?_
    refine x_gQ e rfl rfl fd_12_55 rfl (fun z10 e => ?_)
    refine wp_p (j := J_Y_script) 1 (pc' := 65) (lv' := [(0, .ref v0)]) (st' := [.int 0, .ref z10, .ref v0]) rfl ?_
    refine x_aI e rfl rfl (fun z11 e => ?_)
    refine x_pI e rfl rfl fw_12_162 rfl (fun g12 e => ?_)
    refine wp_p (j := J_Y_script) 1 (pc' := 70) (lv' := [(0, .ref v0)]) (st' := [.ref v0]) rfl ?_
    refine x_gI e rfl rfl fd_12_155 rfl (fun z13 e => ?_)
    refine wp_p (j := J_Y_script) 2 (pc' := 75) (lv' := [(2, .int z13), (0, .ref v0)]) (st' := [.ref v0]) rfl ?_
    refine x_cv0 (As := []) (rest := []) e rfl rfl rfl rfl rfl rfl (fun h => d_Y_runScript h ⟨rfl, rfl⟩) (fun g14 e => ?_)
    refine wp_p (j := J_Y_script) 1 (pc' := 79) (lv' := [(2, .int z13), (0, .ref v0)]) (st' := [.ref v0]) rfl ?_
    refine x_cv0 (As := []) (rest := []) e rfl rfl rfl rfl rfl rfl (fun h => d_Y_settle h ⟨rfl, rfl⟩) (fun g15 e => ?_)
    refine wp_p (j := J_Y_script) 1 (pc' := 83) (lv' := [(2, .int z13), (0, .ref v0)]) (st' := [.ref v0]) rfl ?_
    refine x_cv0 (As := []) (rest := []) e rfl rfl rfl rfl rfl rfl (fun h => d_Y_changed h ⟨rfl, rfl⟩) (fun g16 e => ?_)
    refine wp_p (j := J_Y_script) 1 (pc' := 87) (lv' := [(2, .int z13), (0, .ref v0)]) (st' := [.ref v0]) rfl ?_
    refine x_gI e rfl rfl fd_12_155 rfl (fun z17 e => ?_)
    refine wp_p (j := J_Y_script) 2 (pc' := 92) (lv' := [(2, .int z13), (0, .ref v0)]) (st' := [.int (z17 - z13)]) rfl ?_
    have e := Option.some.inj e; subst e; exact wp_iret (ty := .int) rfl rfl rfl c
  · refine wp_p (j := J_Y_script) 1 (pc' := 10) (lv' := [(1, .int z1), (0, .ref v0)]) (st' := [.int z1]) rfl ?_
    refine x_cs1 (As := [.int z1]) (rest := []) Value.int e rfl rfl rfl rfl rfl (fun h => d_Y_wrong h ⟨rfl, rfl⟩) (fun z18 e => ?_)
    have e := Option.some.inj e; subst e; exact wp_iret (ty := .int) rfl rfl rfl c
noncomputable def M_Y_value (v0 : Nat) (v1 : Int32) (g : g_S) : Option (Int32 × g_S) :=
  (vc g 112 v0 (M_Y_there v0 v1 g)).bind fun z1 =>
  if z1 = 0 then
    some ((-1), g)
  else
    (rQ g 112 v0 46).bind fun z2 =>
    (aI g 0 z2 v1).bind fun z3 =>
    if z3 = 13 then
      (wI g 112 v0 5 0).bind fun g4 =>
      (rQ g4 112 v0 64).bind fun z5 =>
      (rQ g4 112 v0 65).bind fun z6 =>
      (aI g4 0 z6 v1).bind fun z7 =>
      (vc g4 112 v0 (M_Y_sayAll v0 z5 (24 * v1) z7 g4)).bind fun g8 =>
      (rI g8 112 v0 5).bind fun z9 =>
      some (z9, g8)
    else
      some ((-1), g)
set_option maxRecDepth 20000 in
theorem d_Y_value {L : Nat} {xs : Nat → Int32} {Q : Option Value → ab_H → Prop} {v0 : Nat} {v1 : Int32} {g : g_S} {out : Int32 × g_S} (e : M_Y_value v0 v1 g = some out) (c : Q (some (.int out.1)) (hp out.2)) : mw (ab_ext L xs) J_Y_value [.ref v0, .int v1] (hp g) Q := by
  unfold M_Y_value at e
  refine wp_p (j := J_Y_value) 2 (pc' := 2) (lv' := [(0, .ref v0), (1, .int v1)]) (st' := [.int v1, .ref v0]) rfl ?_
  refine x_cv1 (As := [.int v1]) (rest := []) Value.int e rfl rfl rfl rfl rfl rfl (fun h => d_Y_there h ⟨rfl, rfl⟩) (fun z1 e => ?_)
  refine z_eq e rfl (fun e => ?_) (fun e => ?_)
  · refine wp_p (j := J_Y_value) 1 (pc' := 20) (lv' := [(0, .ref v0), (1, .int v1)]) (st' := [.int (-1)]) rfl ?_
    have e := Option.some.inj e; subst e; exact wp_iret (ty := .int) rfl rfl rfl c
  · refine wp_p (j := J_Y_value) 1 (pc' := 9) (lv' := [(0, .ref v0), (1, .int v1)]) (st' := [.ref v0]) rfl ?_
    refine x_gQ e rfl rfl fd_12_46 rfl (fun z2 e => ?_)
    refine wp_p (j := J_Y_value) 1 (pc' := 13) (lv' := [(0, .ref v0), (1, .int v1)]) (st' := [.int v1, .ref z2]) rfl ?_
    refine x_aI e rfl rfl (fun z3 e => ?_)
    refine wp_p (j := J_Y_value) 1 (pc' := 16) (lv' := [(0, .ref v0), (1, .int v1)]) (st' := [.int 13, .int z3]) rfl ?_
    refine x_eq e rfl (fun e => ?_) (fun e => ?_)
    · refine wp_p (j := J_Y_value) 2 (pc' := 23) (lv' := [(0, .ref v0), (1, .int v1)]) (st' := [.int 0, .ref v0]) rfl ?_
      refine x_pI e rfl rfl fw_12_5 rfl (fun g4 e => ?_)
      refine wp_p (j := J_Y_value) 2 (pc' := 28) (lv' := [(0, .ref v0), (1, .int v1)]) (st' := [.ref v0, .ref v0]) rfl ?_
      refine x_gQ e rfl rfl fd_12_64 rfl (fun z5 e => ?_)
      refine wp_p (j := J_Y_value) 4 (pc' := 36) (lv' := [(0, .ref v0), (1, .int v1)]) (st' := [.ref v0, .int (24 * v1), .ref z5, .ref v0]) rfl ?_
      refine x_gQ e rfl rfl fd_12_65 rfl (fun z6 e => ?_)
      refine wp_p (j := J_Y_value) 1 (pc' := 40) (lv' := [(0, .ref v0), (1, .int v1)]) (st' := [.int v1, .ref z6, .int (24 * v1), .ref z5, .ref v0]) rfl ?_
      refine x_aI e rfl rfl (fun z7 e => ?_)
      refine x_cv0 (As := [.ref z5, .int (24 * v1), .int z7]) (rest := []) e rfl rfl rfl rfl rfl rfl (fun h => d_Y_sayAll h ⟨rfl, rfl⟩) (fun g8 e => ?_)
      refine wp_p (j := J_Y_value) 1 (pc' := 45) (lv' := [(0, .ref v0), (1, .int v1)]) (st' := [.ref v0]) rfl ?_
      refine x_gI e rfl rfl fd_12_5 rfl (fun z9 e => ?_)
      have e := Option.some.inj e; subst e; exact wp_iret (ty := .int) rfl rfl rfl c
    · refine wp_p (j := J_Y_value) 1 (pc' := 20) (lv' := [(0, .ref v0), (1, .int v1)]) (st' := [.int (-1)]) rfl ?_
      have e := Option.some.inj e; subst e; exact wp_iret (ty := .int) rfl rfl rfl c
noncomputable def M_Y_checked (v0 : Nat) (v1 : Int32) (g : g_S) : Option Int32 :=
  (vc g 112 v0 (M_Y_there v0 v1 g)).bind fun z1 =>
  if z1 = 0 then
    some (-1)
  else
    (rQ g 112 v0 46).bind fun z2 =>
    (aI g 0 z2 v1).bind fun z3 =>
    if z3 = 13 then
      (rQ g 112 v0 66).bind fun z4 =>
      (aI g 2 z4 v1).bind fun z5 =>
      if z5 = 0 then
        some 0
      else
        some 1
    else
      some (-1)
set_option maxRecDepth 20000 in
theorem d_Y_checked {L : Nat} {xs : Nat → Int32} {Q : Option Value → ab_H → Prop} {v0 : Nat} {v1 : Int32} {g : g_S} {out : Int32} (e : M_Y_checked v0 v1 g = some out) (c : Q (some (.int out)) (hp g)) : mw (ab_ext L xs) J_Y_checked [.ref v0, .int v1] (hp g) Q := by
  unfold M_Y_checked at e
  refine wp_p (j := J_Y_checked) 2 (pc' := 2) (lv' := [(0, .ref v0), (1, .int v1)]) (st' := [.int v1, .ref v0]) rfl ?_
  refine x_cv1 (As := [.int v1]) (rest := []) Value.int e rfl rfl rfl rfl rfl rfl (fun h => d_Y_there h ⟨rfl, rfl⟩) (fun z1 e => ?_)
  refine z_eq e rfl (fun e => ?_) (fun e => ?_)
  · refine wp_p (j := J_Y_checked) 2 (pc' := 37) (lv' := [(0, .ref v0), (1, .int v1)]) (st' := [.int (-1)]) rfl ?_
    have e := Option.some.inj e; subst e; exact wp_iret (ty := .int) rfl rfl rfl c
  · refine wp_p (j := J_Y_checked) 1 (pc' := 9) (lv' := [(0, .ref v0), (1, .int v1)]) (st' := [.ref v0]) rfl ?_
    refine x_gQ e rfl rfl fd_12_46 rfl (fun z2 e => ?_)
    refine wp_p (j := J_Y_checked) 1 (pc' := 13) (lv' := [(0, .ref v0), (1, .int v1)]) (st' := [.int v1, .ref z2]) rfl ?_
    refine x_aI e rfl rfl (fun z3 e => ?_)
    refine wp_p (j := J_Y_checked) 1 (pc' := 16) (lv' := [(0, .ref v0), (1, .int v1)]) (st' := [.int 13, .int z3]) rfl ?_
    refine x_eq e rfl (fun e => ?_) (fun e => ?_)
    · refine wp_p (j := J_Y_checked) 1 (pc' := 24) (lv' := [(0, .ref v0), (1, .int v1)]) (st' := [.ref v0]) rfl ?_
      refine x_gQ e rfl rfl fd_12_66 rfl (fun z4 e => ?_)
      refine wp_p (j := J_Y_checked) 1 (pc' := 28) (lv' := [(0, .ref v0), (1, .int v1)]) (st' := [.int v1, .ref z4]) rfl ?_
      refine x_aB e rfl (.inr rfl) rfl (fun z5 e => ?_)
      refine z_eq e rfl (fun e => ?_) (fun e => ?_)
      · refine wp_p (j := J_Y_checked) 1 (pc' := 37) (lv' := [(0, .ref v0), (1, .int v1)]) (st' := [.int 0]) rfl ?_
        have e := Option.some.inj e; subst e; exact wp_iret (ty := .int) rfl rfl rfl c
      · refine wp_p (j := J_Y_checked) 2 (pc' := 37) (lv' := [(0, .ref v0), (1, .int v1)]) (st' := [.int 1]) rfl ?_
        have e := Option.some.inj e; subst e; exact wp_iret (ty := .int) rfl rfl rfl c
    · refine wp_p (j := J_Y_checked) 2 (pc' := 37) (lv' := [(0, .ref v0), (1, .int v1)]) (st' := [.int (-1)]) rfl ?_
      have e := Option.some.inj e; subst e; exact wp_iret (ty := .int) rfl rfl rfl c
noncomputable def M_Y_count (v0 : Nat) (v1 : Int32) (g : g_S) : Option (Int32 × g_S) :=
  if v1 = 0 then
    (rI g 112 v0 68).bind fun z2 =>
    some (z2, g)
  else if v1 = 1 then
    (rI g 112 v0 70).bind fun z4 =>
    some (z4, g)
  else if v1 = 2 then
    (rI g 112 v0 16).bind fun z6 =>
    some (z6, g)
  else if v1 = 3 then
    (rI g 112 v0 30).bind fun z8 =>
    some (z8, g)
  else if v1 = 4 then
    (rI g 112 v0 26).bind fun z10 =>
    some (z10, g)
  else if v1 = 5 then
    (rI g 112 v0 35).bind fun z12 =>
    some (z12, g)
  else if v1 = 6 then
    (rI g 112 v0 25).bind fun z14 =>
    some (z14, g)
  else if v1 = 7 then
    (rI g 112 v0 148).bind fun z16 =>
    some (z16, g)
  else if v1 = 8 then
    (rI g 112 v0 149).bind fun z18 =>
    some (z18, g)
  else if v1 = 9 then
    (rI g 112 v0 166).bind fun z20 =>
    some (z20, g)
  else if v1 = 10 then
    (rI g 112 v0 157).bind fun z22 =>
    some (z22, g)
  else if v1 = 11 then
    (rI g 112 v0 156).bind fun z24 =>
    some (z24, g)
  else if v1 = 12 then
    (rI g 112 v0 155).bind fun z26 =>
    some (z26, g)
  else if v1 = 13 then
    (vc g 112 v0 (M_Y_focused v0 g)).bind fun z28 =>
    if z28 = 0 then
      some ((-1), g)
    else
      (rI g 112 v0 150).bind fun z29 =>
      some (z29, g)
  else if v1 = 14 then
    c2 (vc g 112 v0 (M_Y_pictureHigh v0 g)) fun z31 g32 =>
    some (z31, g32)
  else if v1 = 15 then
    (rI g 112 v0 174).bind fun z34 =>
    some (z34, g)
  else if v1 = 16 then
    (vc g 112 v0 (M_Y_lay v0 g)).bind fun g36 =>
    (rI g36 112 v0 89).bind fun z37 =>
    some (z37, g36)
  else
    some ((-1), g)
set_option maxRecDepth 20000 in
theorem d_Y_count {L : Nat} {xs : Nat → Int32} {Q : Option Value → ab_H → Prop} {v0 : Nat} {v1 : Int32} {g : g_S} {out : Int32 × g_S} (e : M_Y_count v0 v1 g = some out) (c : Q (some (.int out.1)) (hp out.2)) : mw (ab_ext L xs) J_Y_count [.ref v0, .int v1] (hp g) Q := by
  unfold M_Y_count at e
  refine wp_p (j := J_Y_count) 1 (pc' := 1) (lv' := [(0, .ref v0), (1, .int v1)]) (st' := [.int v1]) rfl ?_
  refine x_if e (fun h1 e => ?_) (fun h1 e => ?_)
  · refine x_sw (cst := 0) (pc' := 84) (rest := []) h1 rfl rfl rfl ?_
    refine wp_p (j := J_Y_count) 1 (pc' := 85) (lv' := [(0, .ref v0), (1, .int v1)]) (st' := [.ref v0]) rfl ?_
    refine x_gI e rfl rfl fd_12_68 rfl (fun z2 e => ?_)
    have e := Option.some.inj e; subst e; exact wp_iret (ty := .int) rfl rfl rfl c
  refine x_if e (fun h3 e => ?_) (fun h3 e => ?_)
  · refine x_sw (cst := 1) (pc' := 89) (rest := []) h3 rfl rfl rfl ?_
    refine wp_p (j := J_Y_count) 1 (pc' := 90) (lv' := [(0, .ref v0), (1, .int v1)]) (st' := [.ref v0]) rfl ?_
    refine x_gI e rfl rfl fd_12_70 rfl (fun z4 e => ?_)
    have e := Option.some.inj e; subst e; exact wp_iret (ty := .int) rfl rfl rfl c
  refine x_if e (fun h5 e => ?_) (fun h5 e => ?_)
  · refine x_sw (cst := 2) (pc' := 94) (rest := []) h5 rfl rfl rfl ?_
    refine wp_p (j := J_Y_count) 1 (pc' := 95) (lv' := [(0, .ref v0), (1, .int v1)]) (st' := [.ref v0]) rfl ?_
    refine x_gI e rfl rfl fd_12_16 rfl (fun z6 e => ?_)
    have e := Option.some.inj e; subst e; exact wp_iret (ty := .int) rfl rfl rfl c
  refine x_if e (fun h7 e => ?_) (fun h7 e => ?_)
  · refine x_sw (cst := 3) (pc' := 99) (rest := []) h7 rfl rfl rfl ?_
    refine wp_p (j := J_Y_count) 1 (pc' := 100) (lv' := [(0, .ref v0), (1, .int v1)]) (st' := [.ref v0]) rfl ?_
    refine x_gI e rfl rfl fd_12_30 rfl (fun z8 e => ?_)
    have e := Option.some.inj e; subst e; exact wp_iret (ty := .int) rfl rfl rfl c
  refine x_if e (fun h9 e => ?_) (fun h9 e => ?_)
  · refine x_sw (cst := 4) (pc' := 104) (rest := []) h9 rfl rfl rfl ?_
    refine wp_p (j := J_Y_count) 1 (pc' := 105) (lv' := [(0, .ref v0), (1, .int v1)]) (st' := [.ref v0]) rfl ?_
    refine x_gI e rfl rfl fd_12_26 rfl (fun z10 e => ?_)
    have e := Option.some.inj e; subst e; exact wp_iret (ty := .int) rfl rfl rfl c
  refine x_if e (fun h11 e => ?_) (fun h11 e => ?_)
  · refine x_sw (cst := 5) (pc' := 109) (rest := []) h11 rfl rfl rfl ?_
    refine wp_p (j := J_Y_count) 1 (pc' := 110) (lv' := [(0, .ref v0), (1, .int v1)]) (st' := [.ref v0]) rfl ?_
    refine x_gI e rfl rfl fd_12_35 rfl (fun z12 e => ?_)
    have e := Option.some.inj e; subst e; exact wp_iret (ty := .int) rfl rfl rfl c
  refine x_if e (fun h13 e => ?_) (fun h13 e => ?_)
  · refine x_sw (cst := 6) (pc' := 114) (rest := []) h13 rfl rfl rfl ?_
    refine wp_p (j := J_Y_count) 1 (pc' := 115) (lv' := [(0, .ref v0), (1, .int v1)]) (st' := [.ref v0]) rfl ?_
    refine x_gI e rfl rfl fd_12_25 rfl (fun z14 e => ?_)
    have e := Option.some.inj e; subst e; exact wp_iret (ty := .int) rfl rfl rfl c
  refine x_if e (fun h15 e => ?_) (fun h15 e => ?_)
  · refine x_sw (cst := 7) (pc' := 119) (rest := []) h15 rfl rfl rfl ?_
    refine wp_p (j := J_Y_count) 1 (pc' := 120) (lv' := [(0, .ref v0), (1, .int v1)]) (st' := [.ref v0]) rfl ?_
    refine x_gI e rfl rfl fd_12_148 rfl (fun z16 e => ?_)
    have e := Option.some.inj e; subst e; exact wp_iret (ty := .int) rfl rfl rfl c
  refine x_if e (fun h17 e => ?_) (fun h17 e => ?_)
  · refine x_sw (cst := 8) (pc' := 124) (rest := []) h17 rfl rfl rfl ?_
    refine wp_p (j := J_Y_count) 1 (pc' := 125) (lv' := [(0, .ref v0), (1, .int v1)]) (st' := [.ref v0]) rfl ?_
    refine x_gI e rfl rfl fd_12_149 rfl (fun z18 e => ?_)
    have e := Option.some.inj e; subst e; exact wp_iret (ty := .int) rfl rfl rfl c
  refine x_if e (fun h19 e => ?_) (fun h19 e => ?_)
  · refine x_sw (cst := 9) (pc' := 129) (rest := []) h19 rfl rfl rfl ?_
    refine wp_p (j := J_Y_count) 1 (pc' := 130) (lv' := [(0, .ref v0), (1, .int v1)]) (st' := [.ref v0]) rfl ?_
    refine x_gI e rfl rfl fd_12_166 rfl (fun z20 e => ?_)
    have e := Option.some.inj e; subst e; exact wp_iret (ty := .int) rfl rfl rfl c
  refine x_if e (fun h21 e => ?_) (fun h21 e => ?_)
  · refine x_sw (cst := 10) (pc' := 134) (rest := []) h21 rfl rfl rfl ?_
    refine wp_p (j := J_Y_count) 1 (pc' := 135) (lv' := [(0, .ref v0), (1, .int v1)]) (st' := [.ref v0]) rfl ?_
    refine x_gI e rfl rfl fd_12_157 rfl (fun z22 e => ?_)
    have e := Option.some.inj e; subst e; exact wp_iret (ty := .int) rfl rfl rfl c
  refine x_if e (fun h23 e => ?_) (fun h23 e => ?_)
  · refine x_sw (cst := 11) (pc' := 139) (rest := []) h23 rfl rfl rfl ?_
    refine wp_p (j := J_Y_count) 1 (pc' := 140) (lv' := [(0, .ref v0), (1, .int v1)]) (st' := [.ref v0]) rfl ?_
    refine x_gI e rfl rfl fd_12_156 rfl (fun z24 e => ?_)
    have e := Option.some.inj e; subst e; exact wp_iret (ty := .int) rfl rfl rfl c
  refine x_if e (fun h25 e => ?_) (fun h25 e => ?_)
  · refine x_sw (cst := 12) (pc' := 144) (rest := []) h25 rfl rfl rfl ?_
    refine wp_p (j := J_Y_count) 1 (pc' := 145) (lv' := [(0, .ref v0), (1, .int v1)]) (st' := [.ref v0]) rfl ?_
    refine x_gI e rfl rfl fd_12_155 rfl (fun z26 e => ?_)
    have e := Option.some.inj e; subst e; exact wp_iret (ty := .int) rfl rfl rfl c
  refine x_if e (fun h27 e => ?_) (fun h27 e => ?_)
  · refine x_sw (cst := 13) (pc' := 149) (rest := []) h27 rfl rfl rfl ?_
    refine wp_p (j := J_Y_count) 1 (pc' := 150) (lv' := [(0, .ref v0), (1, .int v1)]) (st' := [.ref v0]) rfl ?_
    refine x_cv1 (As := []) (rest := []) Value.int e rfl rfl rfl rfl rfl rfl (fun h => d_Y_focused h ⟨rfl, rfl⟩) (fun z28 e => ?_)
    refine z_eq e rfl (fun e => ?_) (fun e => ?_)
    · refine wp_p (j := J_Y_count) 1 (pc' := 164) (lv' := [(0, .ref v0), (1, .int v1)]) (st' := [.int (-1)]) rfl ?_
      have e := Option.some.inj e; subst e; exact wp_iret (ty := .int) rfl rfl rfl c
    · refine wp_p (j := J_Y_count) 1 (pc' := 157) (lv' := [(0, .ref v0), (1, .int v1)]) (st' := [.ref v0]) rfl ?_
      refine x_gI e rfl rfl fd_12_150 rfl (fun z29 e => ?_)
      refine wp_p (j := J_Y_count) 1 (pc' := 164) (lv' := [(0, .ref v0), (1, .int v1)]) (st' := [.int z29]) rfl ?_
      have e := Option.some.inj e; subst e; exact wp_iret (ty := .int) rfl rfl rfl c
  refine x_if e (fun h30 e => ?_) (fun h30 e => ?_)
  · refine x_sw (cst := 14) (pc' := 165) (rest := []) h30 rfl rfl rfl ?_
    refine wp_p (j := J_Y_count) 1 (pc' := 166) (lv' := [(0, .ref v0), (1, .int v1)]) (st' := [.ref v0]) rfl ?_
    refine x_cv2 (As := []) (rest := []) Value.int e rfl rfl rfl rfl rfl rfl (fun h => d_Y_pictureHigh h ⟨rfl, rfl⟩) (fun z31 g32 e => ?_)
    have e := Option.some.inj e; subst e; exact wp_iret (ty := .int) rfl rfl rfl c
  refine x_if e (fun h33 e => ?_) (fun h33 e => ?_)
  · refine x_sw (cst := 15) (pc' := 170) (rest := []) h33 rfl rfl rfl ?_
    refine wp_p (j := J_Y_count) 1 (pc' := 171) (lv' := [(0, .ref v0), (1, .int v1)]) (st' := [.ref v0]) rfl ?_
    refine x_gI e rfl rfl fd_12_174 rfl (fun z34 e => ?_)
    have e := Option.some.inj e; subst e; exact wp_iret (ty := .int) rfl rfl rfl c
  refine x_if e (fun h35 e => ?_) (fun h35 e => ?_)
  · refine x_sw (cst := 16) (pc' := 175) (rest := []) h35 rfl rfl rfl ?_
    refine wp_p (j := J_Y_count) 1 (pc' := 176) (lv' := [(0, .ref v0), (1, .int v1)]) (st' := [.ref v0]) rfl ?_
    refine x_cv0 (As := []) (rest := []) e rfl rfl rfl rfl rfl rfl (fun h => d_Y_lay h ⟨rfl, rfl⟩) (fun g36 e => ?_)
    refine wp_p (j := J_Y_count) 1 (pc' := 180) (lv' := [(0, .ref v0), (1, .int v1)]) (st' := [.ref v0]) rfl ?_
    refine x_gI e rfl rfl fd_12_89 rfl (fun z37 e => ?_)
    have e := Option.some.inj e; subst e; exact wp_iret (ty := .int) rfl rfl rfl c
  refine wp_b (pc' := 184) (st' := []) rfl rfl ((ts_d (x := v1) (lo := 0) 17 rfl ⟨h1, h3, h5, h7, h9, h11, h13, h15, h17, h19, h21, h23, h25, h27, h30, h33, h35, trivial⟩).trans rfl) ?_
  refine wp_p (j := J_Y_count) 1 (pc' := 185) (lv' := [(0, .ref v0), (1, .int v1)]) (st' := [.int (-1)]) rfl ?_
  have e := Option.some.inj e; subst e; exact wp_iret (ty := .int) rfl rfl rfl c
