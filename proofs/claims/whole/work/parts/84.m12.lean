/-! methods as functions, group 12 -/
def cL_Y_readPart_154 (L : Nat) (xs : Nat → Int32) (Q : Option Value → ab_H → Prop) (v0 : Nat) (v1 : Nat) (v2 : Int32) (v3 : Int32) (v4 : Int32) (v5 : Int32) (v6 : Int32) (out : (Int32 × g_S) ⊕ (g_S)) : Prop := match out with
  | .inl s => wp (ab_ext L xs) J_Y_readPart 154 [(0, .ref v0), (1, .ref v1), (2, .int v2), (3, .int v3), (4, .int v4), (5, .int v5), (6, .int v6), (7, .int s.1)] [] (hp s.2) Q
  | .inr s => wp (ab_ext L xs) J_Y_readPart 186 [(0, .ref v0), (1, .ref v1), (2, .int v2), (3, .int v3), (4, .int v4), (6, .int v6)] [] (hp s) Q
noncomputable def b_Y_readPart_154 (v0 : Nat) (v1 : Nat) (v2 : Int32) (v3 : Int32) (v4 : Int32) (v5 : Int32) (v6 : Int32) (v7 : Int32) (g : g_S) : Option ((Int32 × g_S) ⊕ (g_S)) :=
  if v7 < v6 then
    (rQ g 112 v0 92).bind fun z1 =>
    (aI g 1 v1 v7).bind fun z2 =>
    (sB g z1 (((8 * v3) + v7) - v5) z2).bind fun g3 =>
    some (.inl (v7 + 1, g3))
  else
    some (.inr g)
set_option maxRecDepth 20000 in
theorem y_Y_readPart_154 {L : Nat} {xs : Nat → Int32} {Q : Option Value → ab_H → Prop} {v0 : Nat} {v1 : Nat} {v2 : Int32} {v3 : Int32} {v4 : Int32} {v5 : Int32} {v6 : Int32} {v7 : Int32} {g : g_S} {out : (Int32 × g_S) ⊕ (g_S)} (e : b_Y_readPart_154 v0 v1 v2 v3 v4 v5 v6 v7 g = some out) (c : cL_Y_readPart_154 L xs Q v0 v1 v2 v3 v4 v5 v6 out) : wp (ab_ext L xs) J_Y_readPart 154 [(0, .ref v0), (1, .ref v1), (2, .int v2), (3, .int v3), (4, .int v4), (5, .int v5), (6, .int v6), (7, .int v7)] [] (hp g) Q := by
  unfold b_Y_readPart_154 at e
  refine wp_p (j := J_Y_readPart) 2 (pc' := 158) (lv' := [(0, .ref v0), (1, .ref v1), (2, .int v2), (3, .int v3), (4, .int v4), (5, .int v5), (6, .int v6), (7, .int v7)]) (st' := [.int v6, .int v7]) rfl ?_
  refine x_ge e rfl (fun e => ?_) (fun e => ?_)
  · refine wp_p (j := J_Y_readPart) 1 (pc' := 162) (lv' := [(0, .ref v0), (1, .ref v1), (2, .int v2), (3, .int v3), (4, .int v4), (5, .int v5), (6, .int v6), (7, .int v7)]) (st' := [.ref v0]) rfl ?_
    refine x_gQ e rfl rfl fd_12_92 rfl (fun z1 e => ?_)
    refine wp_p (j := J_Y_readPart) 9 (pc' := 178) (lv' := [(0, .ref v0), (1, .ref v1), (2, .int v2), (3, .int v3), (4, .int v4), (5, .int v5), (6, .int v6), (7, .int v7)]) (st' := [.int v7, .ref v1, .int (((8 * v3) + v7) - v5), .ref z1]) rfl ?_
    refine x_aB e rfl (.inl rfl) rfl (fun z2 e => ?_)
    refine x_sB e rfl rfl (fun g3 e => ?_)
    refine wp_p (j := J_Y_readPart) 2 (pc' := 154) (lv' := [(7, .int (v7 + 1)), (0, .ref v0), (1, .ref v1), (2, .int v2), (3, .int v3), (4, .int v4), (5, .int v5), (6, .int v6)]) (st' := []) rfl ?_
    have e := Option.some.inj e; subst e; exact wp_lv (lv' := [(0, .ref v0), (1, .ref v1), (2, .int v2), (3, .int v3), (4, .int v4), (5, .int v5), (6, .int v6), (7, .int (v7 + 1))]) rfl ⟨rfl, rfl, rfl, rfl, rfl, rfl, rfl, rfl, trivial⟩ c
  · have e := Option.some.inj e; subst e; exact wp_lv (lv' := [(0, .ref v0), (1, .ref v1), (2, .int v2), (3, .int v3), (4, .int v4), (6, .int v6)]) rfl ⟨rfl, rfl, rfl, rfl, rfl, rfl, trivial⟩ c
noncomputable def L_Y_readPart_154 (v0 : Nat) (v1 : Nat) (v2 : Int32) (v3 : Int32) (v4 : Int32) (v5 : Int32) (v6 : Int32) (v7 : Int32) (g : g_S) : Option (g_S) := it (fun s : Int32 × g_S => b_Y_readPart_154 v0 v1 v2 v3 v4 v5 v6 s.1 s.2) (v7, g)
theorem l_Y_readPart_154 {L : Nat} {xs : Nat → Int32} {Q : Option Value → ab_H → Prop} {v0 : Nat} {v1 : Nat} {v2 : Int32} {v3 : Int32} {v4 : Int32} {v5 : Int32} {v6 : Int32} {v7 : Int32} {g : g_S} {r : g_S} (e : L_Y_readPart_154 v0 v1 v2 v3 v4 v5 v6 v7 g = some r) (c : cL_Y_readPart_154 L xs Q v0 v1 v2 v3 v4 v5 v6 (.inr r)) : wp (ab_ext L xs) J_Y_readPart 154 [(0, .ref v0), (1, .ref v1), (2, .int v2), (3, .int v3), (4, .int v4), (5, .int v5), (6, .int v6), (7, .int v7)] [] (hp g) Q :=
  it_wp (P := fun s : Int32 × g_S => wp (ab_ext L xs) J_Y_readPart 154 [(0, .ref v0), (1, .ref v1), (2, .int v2), (3, .int v3), (4, .int v4), (5, .int v5), (6, .int v6), (7, .int s.1)] [] (hp s.2) Q) (E := fun r => cL_Y_readPart_154 L xs Q v0 v1 v2 v3 v4 v5 v6 (.inr r)) (fun s out e c => y_Y_readPart_154 e (by cases out <;> exact c)) e c
theorem L_Y_readPart_154_eq (v0 : Nat) (v1 : Nat) (v2 : Int32) (v3 : Int32) (v4 : Int32) (v5 : Int32) (v6 : Int32) (v7 : Int32) (g : g_S) : L_Y_readPart_154 v0 v1 v2 v3 v4 v5 v6 v7 g = itc (b_Y_readPart_154 v0 v1 v2 v3 v4 v5 v6 v7 g) (fun s => L_Y_readPart_154 v0 v1 v2 v3 v4 v5 v6 s.1 s.2) := it_eq2 (fun s : Int32 × g_S => b_Y_readPart_154 v0 v1 v2 v3 v4 v5 v6 s.1 s.2) (v7, g)
def cL_Y_readPart_371 (L : Nat) (xs : Nat → Int32) (Q : Option Value → ab_H → Prop) (v0 : Nat) (v1 : Nat) (v2 : Int32) (v3 : Int32) (v4 : Int32) (v5 : Int32) (v6 : Int32) (v7 : Int32) (out : (Int32 × g_S) ⊕ (g_S)) : Prop := match out with
  | .inl s => wp (ab_ext L xs) J_Y_readPart 371 [(0, .ref v0), (1, .ref v1), (2, .int v2), (3, .int v3), (4, .int v4), (5, .int v5), (6, .int v6), (7, .int v7), (8, .int s.1)] [] (hp s.2) Q
  | .inr s => wp (ab_ext L xs) J_Y_readPart 404 [(0, .ref v0), (1, .ref v1), (2, .int v2), (3, .int v3), (4, .int v4), (6, .int v6), (7, .int v7)] [] (hp s) Q
noncomputable def b_Y_readPart_371 (v0 : Nat) (v1 : Nat) (v2 : Int32) (v3 : Int32) (v4 : Int32) (v5 : Int32) (v6 : Int32) (v7 : Int32) (v8 : Int32) (g : g_S) : Option ((Int32 × g_S) ⊕ (g_S)) :=
  if v8 < v7 then
    (rQ g 112 v0 96).bind fun z1 =>
    (aI g 1 v1 v8).bind fun z2 =>
    (sB g z1 (((8 * v6) + v8) - v5) z2).bind fun g3 =>
    some (.inl (v8 + 1, g3))
  else
    some (.inr g)
set_option maxRecDepth 20000 in
theorem y_Y_readPart_371 {L : Nat} {xs : Nat → Int32} {Q : Option Value → ab_H → Prop} {v0 : Nat} {v1 : Nat} {v2 : Int32} {v3 : Int32} {v4 : Int32} {v5 : Int32} {v6 : Int32} {v7 : Int32} {v8 : Int32} {g : g_S} {out : (Int32 × g_S) ⊕ (g_S)} (e : b_Y_readPart_371 v0 v1 v2 v3 v4 v5 v6 v7 v8 g = some out) (c : cL_Y_readPart_371 L xs Q v0 v1 v2 v3 v4 v5 v6 v7 out) : wp (ab_ext L xs) J_Y_readPart 371 [(0, .ref v0), (1, .ref v1), (2, .int v2), (3, .int v3), (4, .int v4), (5, .int v5), (6, .int v6), (7, .int v7), (8, .int v8)] [] (hp g) Q := by
  unfold b_Y_readPart_371 at e
  refine wp_p (j := J_Y_readPart) 2 (pc' := 375) (lv' := [(0, .ref v0), (1, .ref v1), (2, .int v2), (3, .int v3), (4, .int v4), (5, .int v5), (6, .int v6), (7, .int v7), (8, .int v8)]) (st' := [.int v7, .int v8]) rfl ?_
  refine x_ge e rfl (fun e => ?_) (fun e => ?_)
  · refine wp_p (j := J_Y_readPart) 1 (pc' := 379) (lv' := [(0, .ref v0), (1, .ref v1), (2, .int v2), (3, .int v3), (4, .int v4), (5, .int v5), (6, .int v6), (7, .int v7), (8, .int v8)]) (st' := [.ref v0]) rfl ?_
    refine x_gQ e rfl rfl fd_12_96 rfl (fun z1 e => ?_)
    refine wp_p (j := J_Y_readPart) 9 (pc' := 396) (lv' := [(0, .ref v0), (1, .ref v1), (2, .int v2), (3, .int v3), (4, .int v4), (5, .int v5), (6, .int v6), (7, .int v7), (8, .int v8)]) (st' := [.int v8, .ref v1, .int (((8 * v6) + v8) - v5), .ref z1]) rfl ?_
    refine x_aB e rfl (.inl rfl) rfl (fun z2 e => ?_)
    refine x_sB e rfl rfl (fun g3 e => ?_)
    refine wp_p (j := J_Y_readPart) 2 (pc' := 371) (lv' := [(8, .int (v8 + 1)), (0, .ref v0), (1, .ref v1), (2, .int v2), (3, .int v3), (4, .int v4), (5, .int v5), (6, .int v6), (7, .int v7)]) (st' := []) rfl ?_
    have e := Option.some.inj e; subst e; exact wp_lv (lv' := [(0, .ref v0), (1, .ref v1), (2, .int v2), (3, .int v3), (4, .int v4), (5, .int v5), (6, .int v6), (7, .int v7), (8, .int (v8 + 1))]) rfl ⟨rfl, rfl, rfl, rfl, rfl, rfl, rfl, rfl, rfl, trivial⟩ c
  · have e := Option.some.inj e; subst e; exact wp_lv (lv' := [(0, .ref v0), (1, .ref v1), (2, .int v2), (3, .int v3), (4, .int v4), (6, .int v6), (7, .int v7)]) rfl ⟨rfl, rfl, rfl, rfl, rfl, rfl, rfl, trivial⟩ c
noncomputable def L_Y_readPart_371 (v0 : Nat) (v1 : Nat) (v2 : Int32) (v3 : Int32) (v4 : Int32) (v5 : Int32) (v6 : Int32) (v7 : Int32) (v8 : Int32) (g : g_S) : Option (g_S) := it (fun s : Int32 × g_S => b_Y_readPart_371 v0 v1 v2 v3 v4 v5 v6 v7 s.1 s.2) (v8, g)
theorem l_Y_readPart_371 {L : Nat} {xs : Nat → Int32} {Q : Option Value → ab_H → Prop} {v0 : Nat} {v1 : Nat} {v2 : Int32} {v3 : Int32} {v4 : Int32} {v5 : Int32} {v6 : Int32} {v7 : Int32} {v8 : Int32} {g : g_S} {r : g_S} (e : L_Y_readPart_371 v0 v1 v2 v3 v4 v5 v6 v7 v8 g = some r) (c : cL_Y_readPart_371 L xs Q v0 v1 v2 v3 v4 v5 v6 v7 (.inr r)) : wp (ab_ext L xs) J_Y_readPart 371 [(0, .ref v0), (1, .ref v1), (2, .int v2), (3, .int v3), (4, .int v4), (5, .int v5), (6, .int v6), (7, .int v7), (8, .int v8)] [] (hp g) Q :=
  it_wp (P := fun s : Int32 × g_S => wp (ab_ext L xs) J_Y_readPart 371 [(0, .ref v0), (1, .ref v1), (2, .int v2), (3, .int v3), (4, .int v4), (5, .int v5), (6, .int v6), (7, .int v7), (8, .int s.1)] [] (hp s.2) Q) (E := fun r => cL_Y_readPart_371 L xs Q v0 v1 v2 v3 v4 v5 v6 v7 (.inr r)) (fun s out e c => y_Y_readPart_371 e (by cases out <;> exact c)) e c
theorem L_Y_readPart_371_eq (v0 : Nat) (v1 : Nat) (v2 : Int32) (v3 : Int32) (v4 : Int32) (v5 : Int32) (v6 : Int32) (v7 : Int32) (v8 : Int32) (g : g_S) : L_Y_readPart_371 v0 v1 v2 v3 v4 v5 v6 v7 v8 g = itc (b_Y_readPart_371 v0 v1 v2 v3 v4 v5 v6 v7 v8 g) (fun s => L_Y_readPart_371 v0 v1 v2 v3 v4 v5 v6 v7 s.1 s.2) := it_eq2 (fun s : Int32 × g_S => b_Y_readPart_371 v0 v1 v2 v3 v4 v5 v6 v7 s.1 s.2) (v8, g)
def cL_Y_readPart_68 (L : Nat) (xs : Nat → Int32) (Q : Option Value → ab_H → Prop) (v0 : Nat) (v1 : Nat) (v2 : Int32) (v3 : Int32) (v4 : Int32) (v5 : Int32) (g : g_S) (out : (Int32) ⊕ (Int32)) : Prop := match out with
  | .inl s => wp (ab_ext L xs) J_Y_readPart 68 [(0, .ref v0), (1, .ref v1), (2, .int v2), (3, .int v3), (4, .int v4), (5, .int v5), (6, .int s)] [] (hp g) Q
  | .inr s => wp (ab_ext L xs) J_Y_readPart 110 [(0, .ref v0), (1, .ref v1), (2, .int v2), (3, .int v3), (4, .int v4), (5, .int v5), (6, .int s)] [] (hp g) Q
noncomputable def k_Y_readPart_94 (v0 : Nat) (v1 : Nat) (v2 : Int32) (v3 : Int32) (v4 : Int32) (v5 : Int32) (v6 : Int32) (g : g_S) : Option ((Int32) ⊕ (Int32)) :=
  if (v6 - v5) < 8 then
    some (.inl (v6 + 1))
  else
    some (.inr v6)
set_option maxRecDepth 20000 in
theorem x_Y_readPart_94 {L : Nat} {xs : Nat → Int32} {Q : Option Value → ab_H → Prop} {v0 : Nat} {v1 : Nat} {v2 : Int32} {v3 : Int32} {v4 : Int32} {v5 : Int32} {v6 : Int32} {g : g_S} {out : (Int32) ⊕ (Int32)} (e : k_Y_readPart_94 v0 v1 v2 v3 v4 v5 v6 g = some out) (c : cL_Y_readPart_68 L xs Q v0 v1 v2 v3 v4 v5 g out) : wp (ab_ext L xs) J_Y_readPart 94 [(0, .ref v0), (1, .ref v1), (2, .int v2), (3, .int v3), (4, .int v4), (5, .int v5), (6, .int v6)] [] (hp g) Q := by
  unfold k_Y_readPart_94 at e
  refine wp_p (j := J_Y_readPart) 4 (pc' := 101) (lv' := [(0, .ref v0), (1, .ref v1), (2, .int v2), (3, .int v3), (4, .int v4), (5, .int v5), (6, .int v6)]) (st' := [.int 8, .int (v6 - v5)]) rfl ?_
  refine x_ge e rfl (fun e => ?_) (fun e => ?_)
  · refine wp_p (j := J_Y_readPart) 2 (pc' := 68) (lv' := [(6, .int (v6 + 1)), (0, .ref v0), (1, .ref v1), (2, .int v2), (3, .int v3), (4, .int v4), (5, .int v5)]) (st' := []) rfl ?_
    have e := Option.some.inj e; subst e; exact wp_lv (lv' := [(0, .ref v0), (1, .ref v1), (2, .int v2), (3, .int v3), (4, .int v4), (5, .int v5), (6, .int (v6 + 1))]) rfl ⟨rfl, rfl, rfl, rfl, rfl, rfl, rfl, trivial⟩ c
  · have e := Option.some.inj e; subst e; exact wp_lv (lv' := [(0, .ref v0), (1, .ref v1), (2, .int v2), (3, .int v3), (4, .int v4), (5, .int v5), (6, .int v6)]) rfl ⟨rfl, rfl, rfl, rfl, rfl, rfl, rfl, trivial⟩ c
noncomputable def b_Y_readPart_68 (v0 : Nat) (v1 : Nat) (v2 : Int32) (v3 : Int32) (v4 : Int32) (v5 : Int32) (v6 : Int32) (g : g_S) : Option ((Int32) ⊕ (Int32)) :=
  if v6 < v2 then
    (aI g 1 v1 v6).bind fun z1 =>
    (M_Y_isSmall z1 g).bind fun z2 =>
    if z2 = 0 then
      (aI g 1 v1 v6).bind fun z3 =>
      (M_Y_isDigit z3 g).bind fun z4 =>
      if z4 = 0 then
        some (.inr v6)
      else
        k_Y_readPart_94 v0 v1 v2 v3 v4 v5 v6 g
    else
      k_Y_readPart_94 v0 v1 v2 v3 v4 v5 v6 g
  else
    some (.inr v6)
set_option maxRecDepth 20000 in
theorem y_Y_readPart_68 {L : Nat} {xs : Nat → Int32} {Q : Option Value → ab_H → Prop} {v0 : Nat} {v1 : Nat} {v2 : Int32} {v3 : Int32} {v4 : Int32} {v5 : Int32} {v6 : Int32} {g : g_S} {out : (Int32) ⊕ (Int32)} (e : b_Y_readPart_68 v0 v1 v2 v3 v4 v5 v6 g = some out) (c : cL_Y_readPart_68 L xs Q v0 v1 v2 v3 v4 v5 g out) : wp (ab_ext L xs) J_Y_readPart 68 [(0, .ref v0), (1, .ref v1), (2, .int v2), (3, .int v3), (4, .int v4), (5, .int v5), (6, .int v6)] [] (hp g) Q := by
  unfold b_Y_readPart_68 at e
  refine wp_p (j := J_Y_readPart) 2 (pc' := 71) (lv' := [(0, .ref v0), (1, .ref v1), (2, .int v2), (3, .int v3), (4, .int v4), (5, .int v5), (6, .int v6)]) (st' := [.int v2, .int v6]) rfl ?_
  refine x_ge e rfl (fun e => ?_) (fun e => ?_)
  · refine wp_p (j := J_Y_readPart) 2 (pc' := 77) (lv' := [(0, .ref v0), (1, .ref v1), (2, .int v2), (3, .int v3), (4, .int v4), (5, .int v5), (6, .int v6)]) (st' := [.int v6, .ref v1]) rfl ?_
    refine x_aB e rfl (.inl rfl) rfl (fun z1 e => ?_)
    refine x_cs1 (As := [.int z1]) (rest := []) Value.int e rfl rfl rfl rfl rfl (fun h => d_Y_isSmall h ⟨rfl, rfl⟩) (fun z2 e => ?_)
    refine z_ne e rfl (fun e => ?_) (fun e => ?_)
    · refine wp_p (j := J_Y_readPart) 2 (pc' := 87) (lv' := [(0, .ref v0), (1, .ref v1), (2, .int v2), (3, .int v3), (4, .int v4), (5, .int v5), (6, .int v6)]) (st' := [.int v6, .ref v1]) rfl ?_
      refine x_aB e rfl (.inl rfl) rfl (fun z3 e => ?_)
      refine x_cs1 (As := [.int z3]) (rest := []) Value.int e rfl rfl rfl rfl rfl (fun h => d_Y_isDigit h ⟨rfl, rfl⟩) (fun z4 e => ?_)
      refine z_eq e rfl (fun e => ?_) (fun e => ?_)
      · have e := Option.some.inj e; subst e; exact wp_lv (lv' := [(0, .ref v0), (1, .ref v1), (2, .int v2), (3, .int v3), (4, .int v4), (5, .int v5), (6, .int v6)]) rfl ⟨rfl, rfl, rfl, rfl, rfl, rfl, rfl, trivial⟩ c
      · exact wp_lv (lv' := [(0, .ref v0), (1, .ref v1), (2, .int v2), (3, .int v3), (4, .int v4), (5, .int v5), (6, .int v6)]) rfl ⟨rfl, rfl, rfl, rfl, rfl, rfl, rfl, trivial⟩ (x_Y_readPart_94 e c)
    · exact wp_lv (lv' := [(0, .ref v0), (1, .ref v1), (2, .int v2), (3, .int v3), (4, .int v4), (5, .int v5), (6, .int v6)]) rfl ⟨rfl, rfl, rfl, rfl, rfl, rfl, rfl, trivial⟩ (x_Y_readPart_94 e c)
  · have e := Option.some.inj e; subst e; exact wp_lv (lv' := [(0, .ref v0), (1, .ref v1), (2, .int v2), (3, .int v3), (4, .int v4), (5, .int v5), (6, .int v6)]) rfl ⟨rfl, rfl, rfl, rfl, rfl, rfl, rfl, trivial⟩ c
noncomputable def L_Y_readPart_68 (v0 : Nat) (v1 : Nat) (v2 : Int32) (v3 : Int32) (v4 : Int32) (v5 : Int32) (v6 : Int32) (g : g_S) : Option (Int32) := it (fun s : Int32 => b_Y_readPart_68 v0 v1 v2 v3 v4 v5 s g) (v6)
theorem l_Y_readPart_68 {L : Nat} {xs : Nat → Int32} {Q : Option Value → ab_H → Prop} {v0 : Nat} {v1 : Nat} {v2 : Int32} {v3 : Int32} {v4 : Int32} {v5 : Int32} {v6 : Int32} {g : g_S} {r : Int32} (e : L_Y_readPart_68 v0 v1 v2 v3 v4 v5 v6 g = some r) (c : cL_Y_readPart_68 L xs Q v0 v1 v2 v3 v4 v5 g (.inr r)) : wp (ab_ext L xs) J_Y_readPart 68 [(0, .ref v0), (1, .ref v1), (2, .int v2), (3, .int v3), (4, .int v4), (5, .int v5), (6, .int v6)] [] (hp g) Q :=
  it_wp (P := fun s : Int32 => wp (ab_ext L xs) J_Y_readPart 68 [(0, .ref v0), (1, .ref v1), (2, .int v2), (3, .int v3), (4, .int v4), (5, .int v5), (6, .int s)] [] (hp g) Q) (E := fun r => cL_Y_readPart_68 L xs Q v0 v1 v2 v3 v4 v5 g (.inr r)) (fun s out e c => y_Y_readPart_68 e (by cases out <;> exact c)) e c
theorem L_Y_readPart_68_eq (v0 : Nat) (v1 : Nat) (v2 : Int32) (v3 : Int32) (v4 : Int32) (v5 : Int32) (v6 : Int32) (g : g_S) : L_Y_readPart_68 v0 v1 v2 v3 v4 v5 v6 g = itc (b_Y_readPart_68 v0 v1 v2 v3 v4 v5 v6 g) (fun s => L_Y_readPart_68 v0 v1 v2 v3 v4 v5 s g) := it_eq2 (fun s : Int32 => b_Y_readPart_68 v0 v1 v2 v3 v4 v5 s g) (v6)
def cL_Y_readPart_284 (L : Nat) (xs : Nat → Int32) (Q : Option Value → ab_H → Prop) (v0 : Nat) (v1 : Nat) (v2 : Int32) (v3 : Int32) (v4 : Int32) (v5 : Int32) (v6 : Int32) (g : g_S) (out : (Int32) ⊕ (Int32)) : Prop := match out with
  | .inl s => wp (ab_ext L xs) J_Y_readPart 284 [(0, .ref v0), (1, .ref v1), (2, .int v2), (3, .int v3), (4, .int v4), (5, .int v5), (6, .int v6), (7, .int s)] [] (hp g) Q
  | .inr s => wp (ab_ext L xs) J_Y_readPart 326 [(0, .ref v0), (1, .ref v1), (2, .int v2), (3, .int v3), (4, .int v4), (5, .int v5), (6, .int v6), (7, .int s)] [] (hp g) Q
noncomputable def k_Y_readPart_310 (v0 : Nat) (v1 : Nat) (v2 : Int32) (v3 : Int32) (v4 : Int32) (v5 : Int32) (v6 : Int32) (v7 : Int32) (g : g_S) : Option ((Int32) ⊕ (Int32)) :=
  if (v7 - v5) < 8 then
    some (.inl (v7 + 1))
  else
    some (.inr v7)
set_option maxRecDepth 20000 in
theorem x_Y_readPart_310 {L : Nat} {xs : Nat → Int32} {Q : Option Value → ab_H → Prop} {v0 : Nat} {v1 : Nat} {v2 : Int32} {v3 : Int32} {v4 : Int32} {v5 : Int32} {v6 : Int32} {v7 : Int32} {g : g_S} {out : (Int32) ⊕ (Int32)} (e : k_Y_readPart_310 v0 v1 v2 v3 v4 v5 v6 v7 g = some out) (c : cL_Y_readPart_284 L xs Q v0 v1 v2 v3 v4 v5 v6 g out) : wp (ab_ext L xs) J_Y_readPart 310 [(0, .ref v0), (1, .ref v1), (2, .int v2), (3, .int v3), (4, .int v4), (5, .int v5), (6, .int v6), (7, .int v7)] [] (hp g) Q := by
  unfold k_Y_readPart_310 at e
  refine wp_p (j := J_Y_readPart) 4 (pc' := 317) (lv' := [(0, .ref v0), (1, .ref v1), (2, .int v2), (3, .int v3), (4, .int v4), (5, .int v5), (6, .int v6), (7, .int v7)]) (st' := [.int 8, .int (v7 - v5)]) rfl ?_
  refine x_ge e rfl (fun e => ?_) (fun e => ?_)
  · refine wp_p (j := J_Y_readPart) 2 (pc' := 284) (lv' := [(7, .int (v7 + 1)), (0, .ref v0), (1, .ref v1), (2, .int v2), (3, .int v3), (4, .int v4), (5, .int v5), (6, .int v6)]) (st' := []) rfl ?_
    have e := Option.some.inj e; subst e; exact wp_lv (lv' := [(0, .ref v0), (1, .ref v1), (2, .int v2), (3, .int v3), (4, .int v4), (5, .int v5), (6, .int v6), (7, .int (v7 + 1))]) rfl ⟨rfl, rfl, rfl, rfl, rfl, rfl, rfl, rfl, trivial⟩ c
  · have e := Option.some.inj e; subst e; exact wp_lv (lv' := [(0, .ref v0), (1, .ref v1), (2, .int v2), (3, .int v3), (4, .int v4), (5, .int v5), (6, .int v6), (7, .int v7)]) rfl ⟨rfl, rfl, rfl, rfl, rfl, rfl, rfl, rfl, trivial⟩ c
noncomputable def b_Y_readPart_284 (v0 : Nat) (v1 : Nat) (v2 : Int32) (v3 : Int32) (v4 : Int32) (v5 : Int32) (v6 : Int32) (v7 : Int32) (g : g_S) : Option ((Int32) ⊕ (Int32)) :=
  if v7 < v2 then
    (aI g 1 v1 v7).bind fun z1 =>
    (M_Y_isSmall z1 g).bind fun z2 =>
    if z2 = 0 then
      (aI g 1 v1 v7).bind fun z3 =>
      (M_Y_isDigit z3 g).bind fun z4 =>
      if z4 = 0 then
        some (.inr v7)
      else
        k_Y_readPart_310 v0 v1 v2 v3 v4 v5 v6 v7 g
    else
      k_Y_readPart_310 v0 v1 v2 v3 v4 v5 v6 v7 g
  else
    some (.inr v7)
set_option maxRecDepth 20000 in
theorem y_Y_readPart_284 {L : Nat} {xs : Nat → Int32} {Q : Option Value → ab_H → Prop} {v0 : Nat} {v1 : Nat} {v2 : Int32} {v3 : Int32} {v4 : Int32} {v5 : Int32} {v6 : Int32} {v7 : Int32} {g : g_S} {out : (Int32) ⊕ (Int32)} (e : b_Y_readPart_284 v0 v1 v2 v3 v4 v5 v6 v7 g = some out) (c : cL_Y_readPart_284 L xs Q v0 v1 v2 v3 v4 v5 v6 g out) : wp (ab_ext L xs) J_Y_readPart 284 [(0, .ref v0), (1, .ref v1), (2, .int v2), (3, .int v3), (4, .int v4), (5, .int v5), (6, .int v6), (7, .int v7)] [] (hp g) Q := by
  unfold b_Y_readPart_284 at e
  refine wp_p (j := J_Y_readPart) 2 (pc' := 287) (lv' := [(0, .ref v0), (1, .ref v1), (2, .int v2), (3, .int v3), (4, .int v4), (5, .int v5), (6, .int v6), (7, .int v7)]) (st' := [.int v2, .int v7]) rfl ?_
  refine x_ge e rfl (fun e => ?_) (fun e => ?_)
  · refine wp_p (j := J_Y_readPart) 2 (pc' := 293) (lv' := [(0, .ref v0), (1, .ref v1), (2, .int v2), (3, .int v3), (4, .int v4), (5, .int v5), (6, .int v6), (7, .int v7)]) (st' := [.int v7, .ref v1]) rfl ?_
    refine x_aB e rfl (.inl rfl) rfl (fun z1 e => ?_)
    refine x_cs1 (As := [.int z1]) (rest := []) Value.int e rfl rfl rfl rfl rfl (fun h => d_Y_isSmall h ⟨rfl, rfl⟩) (fun z2 e => ?_)
    refine z_ne e rfl (fun e => ?_) (fun e => ?_)
    · refine wp_p (j := J_Y_readPart) 2 (pc' := 303) (lv' := [(0, .ref v0), (1, .ref v1), (2, .int v2), (3, .int v3), (4, .int v4), (5, .int v5), (6, .int v6), (7, .int v7)]) (st' := [.int v7, .ref v1]) rfl ?_
      refine x_aB e rfl (.inl rfl) rfl (fun z3 e => ?_)
      refine x_cs1 (As := [.int z3]) (rest := []) Value.int e rfl rfl rfl rfl rfl (fun h => d_Y_isDigit h ⟨rfl, rfl⟩) (fun z4 e => ?_)
      refine z_eq e rfl (fun e => ?_) (fun e => ?_)
      · have e := Option.some.inj e; subst e; exact wp_lv (lv' := [(0, .ref v0), (1, .ref v1), (2, .int v2), (3, .int v3), (4, .int v4), (5, .int v5), (6, .int v6), (7, .int v7)]) rfl ⟨rfl, rfl, rfl, rfl, rfl, rfl, rfl, rfl, trivial⟩ c
      · exact wp_lv (lv' := [(0, .ref v0), (1, .ref v1), (2, .int v2), (3, .int v3), (4, .int v4), (5, .int v5), (6, .int v6), (7, .int v7)]) rfl ⟨rfl, rfl, rfl, rfl, rfl, rfl, rfl, rfl, trivial⟩ (x_Y_readPart_310 e c)
    · exact wp_lv (lv' := [(0, .ref v0), (1, .ref v1), (2, .int v2), (3, .int v3), (4, .int v4), (5, .int v5), (6, .int v6), (7, .int v7)]) rfl ⟨rfl, rfl, rfl, rfl, rfl, rfl, rfl, rfl, trivial⟩ (x_Y_readPart_310 e c)
  · have e := Option.some.inj e; subst e; exact wp_lv (lv' := [(0, .ref v0), (1, .ref v1), (2, .int v2), (3, .int v3), (4, .int v4), (5, .int v5), (6, .int v6), (7, .int v7)]) rfl ⟨rfl, rfl, rfl, rfl, rfl, rfl, rfl, rfl, trivial⟩ c
noncomputable def L_Y_readPart_284 (v0 : Nat) (v1 : Nat) (v2 : Int32) (v3 : Int32) (v4 : Int32) (v5 : Int32) (v6 : Int32) (v7 : Int32) (g : g_S) : Option (Int32) := it (fun s : Int32 => b_Y_readPart_284 v0 v1 v2 v3 v4 v5 v6 s g) (v7)
theorem l_Y_readPart_284 {L : Nat} {xs : Nat → Int32} {Q : Option Value → ab_H → Prop} {v0 : Nat} {v1 : Nat} {v2 : Int32} {v3 : Int32} {v4 : Int32} {v5 : Int32} {v6 : Int32} {v7 : Int32} {g : g_S} {r : Int32} (e : L_Y_readPart_284 v0 v1 v2 v3 v4 v5 v6 v7 g = some r) (c : cL_Y_readPart_284 L xs Q v0 v1 v2 v3 v4 v5 v6 g (.inr r)) : wp (ab_ext L xs) J_Y_readPart 284 [(0, .ref v0), (1, .ref v1), (2, .int v2), (3, .int v3), (4, .int v4), (5, .int v5), (6, .int v6), (7, .int v7)] [] (hp g) Q :=
  it_wp (P := fun s : Int32 => wp (ab_ext L xs) J_Y_readPart 284 [(0, .ref v0), (1, .ref v1), (2, .int v2), (3, .int v3), (4, .int v4), (5, .int v5), (6, .int v6), (7, .int s)] [] (hp g) Q) (E := fun r => cL_Y_readPart_284 L xs Q v0 v1 v2 v3 v4 v5 v6 g (.inr r)) (fun s out e c => y_Y_readPart_284 e (by cases out <;> exact c)) e c
theorem L_Y_readPart_284_eq (v0 : Nat) (v1 : Nat) (v2 : Int32) (v3 : Int32) (v4 : Int32) (v5 : Int32) (v6 : Int32) (v7 : Int32) (g : g_S) : L_Y_readPart_284 v0 v1 v2 v3 v4 v5 v6 v7 g = itc (b_Y_readPart_284 v0 v1 v2 v3 v4 v5 v6 v7 g) (fun s => L_Y_readPart_284 v0 v1 v2 v3 v4 v5 v6 s g) := it_eq2 (fun s : Int32 => b_Y_readPart_284 v0 v1 v2 v3 v4 v5 v6 s g) (v7)
def cL_Y_readPart_201 (L : Nat) (xs : Nat → Int32) (Q : Option Value → ab_H → Prop) (v0 : Nat) (v1 : Nat) (v2 : Int32) (v3 : Int32) (v4 : Int32) (out : (Int32 × g_S) ⊕ ((Int32 × g_S) ⊕ (Int32 × g_S) ⊕ (Int32 × g_S))) : Prop := match out with
  | .inl s => wp (ab_ext L xs) J_Y_readPart 201 [(0, .ref v0), (1, .ref v1), (2, .int v2), (3, .int v3), (4, .int v4), (5, .int s.1)] [] (hp s.2) Q
  | .inr (.inl s) => wp (ab_ext L xs) J_Y_readPart 277 [(5, .int s.1)] [] (hp s.2) Q
  | .inr (.inr (.inl s)) => wp (ab_ext L xs) J_Y_readPart 352 [(7, .int s.1)] [] (hp s.2) Q
  | .inr (.inr (.inr s)) => wp (ab_ext L xs) J_Y_readPart 450 [(0, .ref v0), (3, .int v3), (5, .int s.1)] [] (hp s.2) Q
noncomputable def k_Y_readPart_431 (v0 : Nat) (v1 : Nat) (v2 : Int32) (v3 : Int32) (v4 : Int32) (v7 : Int32) (w0 : Int32) (w1 : Int32) (w2 : Int32) (w3 : Nat) (g : g_S) : Option ((Int32 × g_S) ⊕ ((Int32 × g_S) ⊕ (Int32 × g_S) ⊕ (Int32 × g_S))) :=
  (sI g w3 w2 (w1 + w0)).bind fun g1 =>
  (rQ g1 112 v0 93).bind fun z2 =>
  (aI g1 0 z2 v3).bind fun z3 =>
  (sI g1 z2 v3 (z3 + 1)).bind fun g4 =>
  some (.inl (v7, g4))
set_option maxRecDepth 20000 in
theorem x_Y_readPart_431 {L : Nat} {xs : Nat → Int32} {Q : Option Value → ab_H → Prop} {v0 : Nat} {v1 : Nat} {v2 : Int32} {v3 : Int32} {v4 : Int32} {v7 : Int32} {w0 : Int32} {w1 : Int32} {w2 : Int32} {w3 : Nat} {g : g_S} {out : (Int32 × g_S) ⊕ ((Int32 × g_S) ⊕ (Int32 × g_S) ⊕ (Int32 × g_S))} (e : k_Y_readPart_431 v0 v1 v2 v3 v4 v7 w0 w1 w2 w3 g = some out) (c : cL_Y_readPart_201 L xs Q v0 v1 v2 v3 v4 out) : wp (ab_ext L xs) J_Y_readPart 431 [(0, .ref v0), (1, .ref v1), (2, .int v2), (3, .int v3), (4, .int v4), (7, .int v7)] [.int w0, .int w1, .int w2, .ref w3] (hp g) Q := by
  unfold k_Y_readPart_431 at e
  refine wp_p (j := J_Y_readPart) 1 (pc' := 432) (lv' := [(0, .ref v0), (1, .ref v1), (2, .int v2), (3, .int v3), (4, .int v4), (7, .int v7)]) (st' := [.int (w1 + w0), .int w2, .ref w3]) rfl ?_
  refine x_sI e rfl rfl (fun g1 e => ?_)
  refine wp_p (j := J_Y_readPart) 1 (pc' := 434) (lv' := [(0, .ref v0), (1, .ref v1), (2, .int v2), (3, .int v3), (4, .int v4), (7, .int v7)]) (st' := [.ref v0]) rfl ?_
  refine x_gQ e rfl rfl fd_12_93 rfl (fun z2 e => ?_)
  refine wp_p (j := J_Y_readPart) 2 (pc' := 439) (lv' := [(0, .ref v0), (1, .ref v1), (2, .int v2), (3, .int v3), (4, .int v4), (7, .int v7)]) (st' := [.int v3, .ref z2, .int v3, .ref z2]) rfl ?_
  refine x_aI e rfl rfl (fun z3 e => ?_)
  refine wp_p (j := J_Y_readPart) 2 (pc' := 442) (lv' := [(0, .ref v0), (1, .ref v1), (2, .int v2), (3, .int v3), (4, .int v4), (7, .int v7)]) (st' := [.int (z3 + 1), .int v3, .ref z2]) rfl ?_
  refine x_sI e rfl rfl (fun g4 e => ?_)
  refine wp_p (j := J_Y_readPart) 3 (pc' := 201) (lv' := [(5, .int v7), (0, .ref v0), (1, .ref v1), (2, .int v2), (3, .int v3), (4, .int v4), (7, .int v7)]) (st' := []) rfl ?_
  have e := Option.some.inj e; subst e; exact wp_lv (lv' := [(0, .ref v0), (1, .ref v1), (2, .int v2), (3, .int v3), (4, .int v4), (5, .int v7)]) rfl ⟨rfl, rfl, rfl, rfl, rfl, rfl, trivial⟩ c
noncomputable def k_Y_readPart_355 (v0 : Nat) (v1 : Nat) (v2 : Int32) (v3 : Int32) (v4 : Int32) (v5 : Int32) (v6 : Int32) (v7 : Int32) (g : g_S) : Option ((Int32 × g_S) ⊕ ((Int32 × g_S) ⊕ (Int32 × g_S) ⊕ (Int32 × g_S))) :=
  (rQ g 112 v0 95).bind fun z1 =>
  (sI g z1 v6 (v7 - v5)).bind fun g2 =>
  (L_Y_readPart_371 v0 v1 v2 v3 v4 v5 v6 v7 v5 g2).bind <| fun g5 =>
  (rQ g5 112 v0 97).bind fun z6 =>
  (aI g5 0 z6 v4).bind fun z7 =>
  (rQ g5 112 v0 94).bind fun z8 =>
  (aI g5 0 z8 v6).bind fun z9 =>
  if z9 = 35 then
    k_Y_readPart_431 v0 v1 v2 v3 v4 v7 100 z7 v4 z6 g5
  else
    k_Y_readPart_431 v0 v1 v2 v3 v4 v7 10 z7 v4 z6 g5
set_option maxRecDepth 20000 in
theorem x_Y_readPart_355 {L : Nat} {xs : Nat → Int32} {Q : Option Value → ab_H → Prop} {v0 : Nat} {v1 : Nat} {v2 : Int32} {v3 : Int32} {v4 : Int32} {v5 : Int32} {v6 : Int32} {v7 : Int32} {g : g_S} {out : (Int32 × g_S) ⊕ ((Int32 × g_S) ⊕ (Int32 × g_S) ⊕ (Int32 × g_S))} (e : k_Y_readPart_355 v0 v1 v2 v3 v4 v5 v6 v7 g = some out) (c : cL_Y_readPart_201 L xs Q v0 v1 v2 v3 v4 out) : wp (ab_ext L xs) J_Y_readPart 355 [(0, .ref v0), (1, .ref v1), (2, .int v2), (3, .int v3), (4, .int v4), (5, .int v5), (6, .int v6), (7, .int v7)] [] (hp g) Q := by
  unfold k_Y_readPart_355 at e
  refine wp_p (j := J_Y_readPart) 1 (pc' := 356) (lv' := [(0, .ref v0), (1, .ref v1), (2, .int v2), (3, .int v3), (4, .int v4), (5, .int v5), (6, .int v6), (7, .int v7)]) (st' := [.ref v0]) rfl ?_
  refine x_gQ e rfl rfl fd_12_95 rfl (fun z1 e => ?_)
  refine wp_p (j := J_Y_readPart) 4 (pc' := 366) (lv' := [(0, .ref v0), (1, .ref v1), (2, .int v2), (3, .int v3), (4, .int v4), (5, .int v5), (6, .int v6), (7, .int v7)]) (st' := [.int (v7 - v5), .int v6, .ref z1]) rfl ?_
  refine x_sI e rfl rfl (fun g2 e => ?_)
  refine wp_p (j := J_Y_readPart) 2 (pc' := 371) (lv' := [(8, .int v5), (0, .ref v0), (1, .ref v1), (2, .int v2), (3, .int v3), (4, .int v4), (5, .int v5), (6, .int v6), (7, .int v7)]) (st' := []) rfl ?_
  obtain ⟨g5, h4, e⟩ := bd e
  refine wp_lv (lv' := [(0, .ref v0), (1, .ref v1), (2, .int v2), (3, .int v3), (4, .int v4), (5, .int v5), (6, .int v6), (7, .int v7), (8, .int v5)]) rfl ⟨rfl, rfl, rfl, rfl, rfl, rfl, rfl, rfl, rfl, trivial⟩ ?_
  refine l_Y_readPart_371 h4 ?_
  show wp (ab_ext L xs) J_Y_readPart 404 [(0, .ref v0), (1, .ref v1), (2, .int v2), (3, .int v3), (4, .int v4), (6, .int v6), (7, .int v7)] [] (hp g5) Q
  refine wp_p (j := J_Y_readPart) 1 (pc' := 405) (lv' := [(0, .ref v0), (1, .ref v1), (2, .int v2), (3, .int v3), (4, .int v4), (6, .int v6), (7, .int v7)]) (st' := [.ref v0]) rfl ?_
  refine x_gQ e rfl rfl fd_12_97 rfl (fun z6 e => ?_)
  refine wp_p (j := J_Y_readPart) 2 (pc' := 411) (lv' := [(0, .ref v0), (1, .ref v1), (2, .int v2), (3, .int v3), (4, .int v4), (6, .int v6), (7, .int v7)]) (st' := [.int v4, .ref z6, .int v4, .ref z6]) rfl ?_
  refine x_aI e rfl rfl (fun z7 e => ?_)
  refine wp_p (j := J_Y_readPart) 1 (pc' := 413) (lv' := [(0, .ref v0), (1, .ref v1), (2, .int v2), (3, .int v3), (4, .int v4), (6, .int v6), (7, .int v7)]) (st' := [.ref v0, .int z7, .int v4, .ref z6]) rfl ?_
  refine x_gQ e rfl rfl fd_12_94 rfl (fun z8 e => ?_)
  refine wp_p (j := J_Y_readPart) 1 (pc' := 418) (lv' := [(0, .ref v0), (1, .ref v1), (2, .int v2), (3, .int v3), (4, .int v4), (6, .int v6), (7, .int v7)]) (st' := [.int v6, .ref z8, .int z7, .int v4, .ref z6]) rfl ?_
  refine x_aI e rfl rfl (fun z9 e => ?_)
  refine wp_p (j := J_Y_readPart) 1 (pc' := 421) (lv' := [(0, .ref v0), (1, .ref v1), (2, .int v2), (3, .int v3), (4, .int v4), (6, .int v6), (7, .int v7)]) (st' := [.int 35, .int z9, .int z7, .int v4, .ref z6]) rfl ?_
  refine x_ne e rfl (fun e => ?_) (fun e => ?_)
  · refine wp_p (j := J_Y_readPart) 2 (pc' := 431) (lv' := [(0, .ref v0), (1, .ref v1), (2, .int v2), (3, .int v3), (4, .int v4), (6, .int v6), (7, .int v7)]) (st' := [.int 100, .int z7, .int v4, .ref z6]) rfl ?_
    exact wp_lv (lv' := [(0, .ref v0), (1, .ref v1), (2, .int v2), (3, .int v3), (4, .int v4), (7, .int v7)]) rfl ⟨rfl, rfl, rfl, rfl, rfl, rfl, trivial⟩ (x_Y_readPart_431 e c)
  · refine wp_p (j := J_Y_readPart) 1 (pc' := 431) (lv' := [(0, .ref v0), (1, .ref v1), (2, .int v2), (3, .int v3), (4, .int v4), (6, .int v6), (7, .int v7)]) (st' := [.int 10, .int z7, .int v4, .ref z6]) rfl ?_
    exact wp_lv (lv' := [(0, .ref v0), (1, .ref v1), (2, .int v2), (3, .int v3), (4, .int v4), (7, .int v7)]) rfl ⟨rfl, rfl, rfl, rfl, rfl, rfl, trivial⟩ (x_Y_readPart_431 e c)
noncomputable def k_Y_readPart_326 (v0 : Nat) (v1 : Nat) (v2 : Int32) (v3 : Int32) (v4 : Int32) (v5 : Int32) (v6 : Int32) (v7 : Int32) (g : g_S) : Option ((Int32 × g_S) ⊕ ((Int32 × g_S) ⊕ (Int32 × g_S) ⊕ (Int32 × g_S))) :=
  if v7 < v2 then
    (aI g 1 v1 v7).bind fun z1 =>
    (M_Y_isSmall z1 g).bind fun z2 =>
    if z2 = 0 then
      (aI g 1 v1 v7).bind fun z3 =>
      (M_Y_isDigit z3 g).bind fun z4 =>
      if z4 = 0 then
        k_Y_readPart_355 v0 v1 v2 v3 v4 v5 v6 v7 g
      else
        some (.inr (.inr (.inl (v7, g))))
    else
      some (.inr (.inr (.inl (v7, g))))
  else
    k_Y_readPart_355 v0 v1 v2 v3 v4 v5 v6 v7 g
set_option maxRecDepth 20000 in
theorem x_Y_readPart_326 {L : Nat} {xs : Nat → Int32} {Q : Option Value → ab_H → Prop} {v0 : Nat} {v1 : Nat} {v2 : Int32} {v3 : Int32} {v4 : Int32} {v5 : Int32} {v6 : Int32} {v7 : Int32} {g : g_S} {out : (Int32 × g_S) ⊕ ((Int32 × g_S) ⊕ (Int32 × g_S) ⊕ (Int32 × g_S))} (e : k_Y_readPart_326 v0 v1 v2 v3 v4 v5 v6 v7 g = some out) (c : cL_Y_readPart_201 L xs Q v0 v1 v2 v3 v4 out) : wp (ab_ext L xs) J_Y_readPart 326 [(0, .ref v0), (1, .ref v1), (2, .int v2), (3, .int v3), (4, .int v4), (5, .int v5), (6, .int v6), (7, .int v7)] [] (hp g) Q := by
  unfold k_Y_readPart_326 at e
  refine wp_p (j := J_Y_readPart) 2 (pc' := 329) (lv' := [(0, .ref v0), (1, .ref v1), (2, .int v2), (3, .int v3), (4, .int v4), (5, .int v5), (6, .int v6), (7, .int v7)]) (st' := [.int v2, .int v7]) rfl ?_
  refine x_ge e rfl (fun e => ?_) (fun e => ?_)
  · refine wp_p (j := J_Y_readPart) 2 (pc' := 335) (lv' := [(0, .ref v0), (1, .ref v1), (2, .int v2), (3, .int v3), (4, .int v4), (5, .int v5), (6, .int v6), (7, .int v7)]) (st' := [.int v7, .ref v1]) rfl ?_
    refine x_aB e rfl (.inl rfl) rfl (fun z1 e => ?_)
    refine x_cs1 (As := [.int z1]) (rest := []) Value.int e rfl rfl rfl rfl rfl (fun h => d_Y_isSmall h ⟨rfl, rfl⟩) (fun z2 e => ?_)
    refine z_ne e rfl (fun e => ?_) (fun e => ?_)
    · refine wp_p (j := J_Y_readPart) 2 (pc' := 345) (lv' := [(0, .ref v0), (1, .ref v1), (2, .int v2), (3, .int v3), (4, .int v4), (5, .int v5), (6, .int v6), (7, .int v7)]) (st' := [.int v7, .ref v1]) rfl ?_
      refine x_aB e rfl (.inl rfl) rfl (fun z3 e => ?_)
      refine x_cs1 (As := [.int z3]) (rest := []) Value.int e rfl rfl rfl rfl rfl (fun h => d_Y_isDigit h ⟨rfl, rfl⟩) (fun z4 e => ?_)
      refine z_eq e rfl (fun e => ?_) (fun e => ?_)
      · exact wp_lv (lv' := [(0, .ref v0), (1, .ref v1), (2, .int v2), (3, .int v3), (4, .int v4), (5, .int v5), (6, .int v6), (7, .int v7)]) rfl ⟨rfl, rfl, rfl, rfl, rfl, rfl, rfl, rfl, trivial⟩ (x_Y_readPart_355 e c)
      · have e := Option.some.inj e; subst e; exact wp_lv (lv' := [(7, .int v7)]) rfl ⟨rfl, trivial⟩ c
    · have e := Option.some.inj e; subst e; exact wp_lv (lv' := [(7, .int v7)]) rfl ⟨rfl, trivial⟩ c
  · exact wp_lv (lv' := [(0, .ref v0), (1, .ref v1), (2, .int v2), (3, .int v3), (4, .int v4), (5, .int v5), (6, .int v6), (7, .int v7)]) rfl ⟨rfl, rfl, rfl, rfl, rfl, rfl, rfl, rfl, trivial⟩ (x_Y_readPart_355 e c)
noncomputable def k_Y_readPart_225 (v0 : Nat) (v1 : Nat) (v2 : Int32) (v3 : Int32) (v4 : Int32) (v5 : Int32) (g : g_S) : Option ((Int32 × g_S) ⊕ ((Int32 × g_S) ⊕ (Int32 × g_S) ⊕ (Int32 × g_S))) :=
  (rQ g 112 v0 93).bind fun z1 =>
  (aI g 0 z1 v3).bind fun z2 =>
  if z2 < 4 then
    (rQ g 112 v0 93).bind fun z3 =>
    (aI g 0 z3 v3).bind fun z4 =>
    (rQ g 112 v0 94).bind fun z5 =>
    (aI g 1 v1 v5).bind fun z6 =>
    (sI g z5 ((4 * v3) + z4) z6).bind fun g7 =>
    if (v5 + 1) < v2 then
      (aI g7 1 v1 (v5 + 1)).bind fun z8 =>
      (M_Y_isSmall z8 g7).bind fun z9 =>
      if z9 = 0 then
        some (.inr (.inl (v5 + 1, g7)))
      else
        (L_Y_readPart_284 v0 v1 v2 v3 v4 (v5 + 1) ((4 * v3) + z4) (v5 + 1) g7).bind <| fun z12 =>
        k_Y_readPart_326 v0 v1 v2 v3 v4 (v5 + 1) ((4 * v3) + z4) z12 g7
    else
      some (.inr (.inl (v5 + 1, g7)))
  else
    some (.inr (.inr (.inr (v5, g))))
set_option maxRecDepth 20000 in
theorem x_Y_readPart_225 {L : Nat} {xs : Nat → Int32} {Q : Option Value → ab_H → Prop} {v0 : Nat} {v1 : Nat} {v2 : Int32} {v3 : Int32} {v4 : Int32} {v5 : Int32} {g : g_S} {out : (Int32 × g_S) ⊕ ((Int32 × g_S) ⊕ (Int32 × g_S) ⊕ (Int32 × g_S))} (e : k_Y_readPart_225 v0 v1 v2 v3 v4 v5 g = some out) (c : cL_Y_readPart_201 L xs Q v0 v1 v2 v3 v4 out) : wp (ab_ext L xs) J_Y_readPart 225 [(0, .ref v0), (1, .ref v1), (2, .int v2), (3, .int v3), (4, .int v4), (5, .int v5)] [] (hp g) Q := by
  unfold k_Y_readPart_225 at e
  refine wp_p (j := J_Y_readPart) 1 (pc' := 226) (lv' := [(0, .ref v0), (1, .ref v1), (2, .int v2), (3, .int v3), (4, .int v4), (5, .int v5)]) (st' := [.ref v0]) rfl ?_
  refine x_gQ e rfl rfl fd_12_93 rfl (fun z1 e => ?_)
  refine wp_p (j := J_Y_readPart) 1 (pc' := 230) (lv' := [(0, .ref v0), (1, .ref v1), (2, .int v2), (3, .int v3), (4, .int v4), (5, .int v5)]) (st' := [.int v3, .ref z1]) rfl ?_
  refine x_aI e rfl rfl (fun z2 e => ?_)
  refine wp_p (j := J_Y_readPart) 1 (pc' := 232) (lv' := [(0, .ref v0), (1, .ref v1), (2, .int v2), (3, .int v3), (4, .int v4), (5, .int v5)]) (st' := [.int 4, .int z2]) rfl ?_
  refine x_ge e rfl (fun e => ?_) (fun e => ?_)
  · refine wp_p (j := J_Y_readPart) 4 (pc' := 239) (lv' := [(0, .ref v0), (1, .ref v1), (2, .int v2), (3, .int v3), (4, .int v4), (5, .int v5)]) (st' := [.ref v0, .int (4 * v3)]) rfl ?_
    refine x_gQ e rfl rfl fd_12_93 rfl (fun z3 e => ?_)
    refine wp_p (j := J_Y_readPart) 1 (pc' := 243) (lv' := [(0, .ref v0), (1, .ref v1), (2, .int v2), (3, .int v3), (4, .int v4), (5, .int v5)]) (st' := [.int v3, .ref z3, .int (4 * v3)]) rfl ?_
    refine x_aI e rfl rfl (fun z4 e => ?_)
    refine wp_p (j := J_Y_readPart) 3 (pc' := 248) (lv' := [(6, .int ((4 * v3) + z4)), (0, .ref v0), (1, .ref v1), (2, .int v2), (3, .int v3), (4, .int v4), (5, .int v5)]) (st' := [.ref v0]) rfl ?_
    refine x_gQ e rfl rfl fd_12_94 rfl (fun z5 e => ?_)
    refine wp_p (j := J_Y_readPart) 3 (pc' := 256) (lv' := [(6, .int ((4 * v3) + z4)), (0, .ref v0), (1, .ref v1), (2, .int v2), (3, .int v3), (4, .int v4), (5, .int v5)]) (st' := [.int v5, .ref v1, .int ((4 * v3) + z4), .ref z5]) rfl ?_
    refine x_aB e rfl (.inl rfl) rfl (fun z6 e => ?_)
    refine x_sI e rfl rfl (fun g7 e => ?_)
    refine wp_p (j := J_Y_readPart) 3 (pc' := 264) (lv' := [(5, .int (v5 + 1)), (6, .int ((4 * v3) + z4)), (0, .ref v0), (1, .ref v1), (2, .int v2), (3, .int v3), (4, .int v4)]) (st' := [.int v2, .int (v5 + 1)]) rfl ?_
    refine x_ge e rfl (fun e => ?_) (fun e => ?_)
    · refine wp_p (j := J_Y_readPart) 2 (pc' := 270) (lv' := [(5, .int (v5 + 1)), (6, .int ((4 * v3) + z4)), (0, .ref v0), (1, .ref v1), (2, .int v2), (3, .int v3), (4, .int v4)]) (st' := [.int (v5 + 1), .ref v1]) rfl ?_
      refine x_aB e rfl (.inl rfl) rfl (fun z8 e => ?_)
      refine x_cs1 (As := [.int z8]) (rest := []) Value.int e rfl rfl rfl rfl rfl (fun h => d_Y_isSmall h ⟨rfl, rfl⟩) (fun z9 e => ?_)
      refine z_ne e rfl (fun e => ?_) (fun e => ?_)
      · have e := Option.some.inj e; subst e; exact wp_lv (lv' := [(5, .int (v5 + 1))]) rfl ⟨rfl, trivial⟩ c
      · refine wp_p (j := J_Y_readPart) 2 (pc' := 284) (lv' := [(7, .int (v5 + 1)), (5, .int (v5 + 1)), (6, .int ((4 * v3) + z4)), (0, .ref v0), (1, .ref v1), (2, .int v2), (3, .int v3), (4, .int v4)]) (st' := []) rfl ?_
        obtain ⟨z12, h11, e⟩ := bd e
        refine wp_lv (lv' := [(0, .ref v0), (1, .ref v1), (2, .int v2), (3, .int v3), (4, .int v4), (5, .int (v5 + 1)), (6, .int ((4 * v3) + z4)), (7, .int (v5 + 1))]) rfl ⟨rfl, rfl, rfl, rfl, rfl, rfl, rfl, rfl, trivial⟩ ?_
        refine l_Y_readPart_284 h11 ?_
        show wp (ab_ext L xs) J_Y_readPart 326 [(0, .ref v0), (1, .ref v1), (2, .int v2), (3, .int v3), (4, .int v4), (5, .int (v5 + 1)), (6, .int ((4 * v3) + z4)), (7, .int z12)] [] (hp g7) Q
        exact wp_lv (lv' := [(0, .ref v0), (1, .ref v1), (2, .int v2), (3, .int v3), (4, .int v4), (5, .int (v5 + 1)), (6, .int ((4 * v3) + z4)), (7, .int z12)]) rfl ⟨rfl, rfl, rfl, rfl, rfl, rfl, rfl, rfl, trivial⟩ (x_Y_readPart_326 e c)
    · have e := Option.some.inj e; subst e; exact wp_lv (lv' := [(5, .int (v5 + 1))]) rfl ⟨rfl, trivial⟩ c
  · have e := Option.some.inj e; subst e; exact wp_lv (lv' := [(0, .ref v0), (3, .int v3), (5, .int v5)]) rfl ⟨rfl, rfl, rfl, trivial⟩ c
noncomputable def b_Y_readPart_201 (v0 : Nat) (v1 : Nat) (v2 : Int32) (v3 : Int32) (v4 : Int32) (v5 : Int32) (g : g_S) : Option ((Int32 × g_S) ⊕ ((Int32 × g_S) ⊕ (Int32 × g_S) ⊕ (Int32 × g_S))) :=
  if v5 < v2 then
    (aI g 1 v1 v5).bind fun z1 =>
    if z1 = 46 then
      k_Y_readPart_225 v0 v1 v2 v3 v4 v5 g
    else
      (aI g 1 v1 v5).bind fun z2 =>
      if z2 = 35 then
        k_Y_readPart_225 v0 v1 v2 v3 v4 v5 g
      else
        some (.inr (.inr (.inr (v5, g))))
  else
    some (.inr (.inr (.inr (v5, g))))
set_option maxRecDepth 20000 in
theorem y_Y_readPart_201 {L : Nat} {xs : Nat → Int32} {Q : Option Value → ab_H → Prop} {v0 : Nat} {v1 : Nat} {v2 : Int32} {v3 : Int32} {v4 : Int32} {v5 : Int32} {g : g_S} {out : (Int32 × g_S) ⊕ ((Int32 × g_S) ⊕ (Int32 × g_S) ⊕ (Int32 × g_S))} (e : b_Y_readPart_201 v0 v1 v2 v3 v4 v5 g = some out) (c : cL_Y_readPart_201 L xs Q v0 v1 v2 v3 v4 out) : wp (ab_ext L xs) J_Y_readPart 201 [(0, .ref v0), (1, .ref v1), (2, .int v2), (3, .int v3), (4, .int v4), (5, .int v5)] [] (hp g) Q := by
  unfold b_Y_readPart_201 at e
  refine wp_p (j := J_Y_readPart) 2 (pc' := 204) (lv' := [(0, .ref v0), (1, .ref v1), (2, .int v2), (3, .int v3), (4, .int v4), (5, .int v5)]) (st' := [.int v2, .int v5]) rfl ?_
  refine x_ge e rfl (fun e => ?_) (fun e => ?_)
  · refine wp_p (j := J_Y_readPart) 2 (pc' := 210) (lv' := [(0, .ref v0), (1, .ref v1), (2, .int v2), (3, .int v3), (4, .int v4), (5, .int v5)]) (st' := [.int v5, .ref v1]) rfl ?_
    refine x_aB e rfl (.inl rfl) rfl (fun z1 e => ?_)
    refine wp_p (j := J_Y_readPart) 1 (pc' := 213) (lv' := [(0, .ref v0), (1, .ref v1), (2, .int v2), (3, .int v3), (4, .int v4), (5, .int v5)]) (st' := [.int 46, .int z1]) rfl ?_
    refine x_eq e rfl (fun e => ?_) (fun e => ?_)
    · exact wp_lv (lv' := [(0, .ref v0), (1, .ref v1), (2, .int v2), (3, .int v3), (4, .int v4), (5, .int v5)]) rfl ⟨rfl, rfl, rfl, rfl, rfl, rfl, trivial⟩ (x_Y_readPart_225 e c)
    · refine wp_p (j := J_Y_readPart) 2 (pc' := 219) (lv' := [(0, .ref v0), (1, .ref v1), (2, .int v2), (3, .int v3), (4, .int v4), (5, .int v5)]) (st' := [.int v5, .ref v1]) rfl ?_
      refine x_aB e rfl (.inl rfl) rfl (fun z2 e => ?_)
      refine wp_p (j := J_Y_readPart) 1 (pc' := 222) (lv' := [(0, .ref v0), (1, .ref v1), (2, .int v2), (3, .int v3), (4, .int v4), (5, .int v5)]) (st' := [.int 35, .int z2]) rfl ?_
      refine x_ne e rfl (fun e => ?_) (fun e => ?_)
      · exact wp_lv (lv' := [(0, .ref v0), (1, .ref v1), (2, .int v2), (3, .int v3), (4, .int v4), (5, .int v5)]) rfl ⟨rfl, rfl, rfl, rfl, rfl, rfl, trivial⟩ (x_Y_readPart_225 e c)
      · have e := Option.some.inj e; subst e; exact wp_lv (lv' := [(0, .ref v0), (3, .int v3), (5, .int v5)]) rfl ⟨rfl, rfl, rfl, trivial⟩ c
  · have e := Option.some.inj e; subst e; exact wp_lv (lv' := [(0, .ref v0), (3, .int v3), (5, .int v5)]) rfl ⟨rfl, rfl, rfl, trivial⟩ c
noncomputable def L_Y_readPart_201 (v0 : Nat) (v1 : Nat) (v2 : Int32) (v3 : Int32) (v4 : Int32) (v5 : Int32) (g : g_S) : Option ((Int32 × g_S) ⊕ (Int32 × g_S) ⊕ (Int32 × g_S)) := it (fun s : Int32 × g_S => b_Y_readPart_201 v0 v1 v2 v3 v4 s.1 s.2) (v5, g)
theorem l_Y_readPart_201 {L : Nat} {xs : Nat → Int32} {Q : Option Value → ab_H → Prop} {v0 : Nat} {v1 : Nat} {v2 : Int32} {v3 : Int32} {v4 : Int32} {v5 : Int32} {g : g_S} {r : (Int32 × g_S) ⊕ (Int32 × g_S) ⊕ (Int32 × g_S)} (e : L_Y_readPart_201 v0 v1 v2 v3 v4 v5 g = some r) (c : cL_Y_readPart_201 L xs Q v0 v1 v2 v3 v4 (.inr r)) : wp (ab_ext L xs) J_Y_readPart 201 [(0, .ref v0), (1, .ref v1), (2, .int v2), (3, .int v3), (4, .int v4), (5, .int v5)] [] (hp g) Q :=
  it_wp (P := fun s : Int32 × g_S => wp (ab_ext L xs) J_Y_readPart 201 [(0, .ref v0), (1, .ref v1), (2, .int v2), (3, .int v3), (4, .int v4), (5, .int s.1)] [] (hp s.2) Q) (E := fun r => cL_Y_readPart_201 L xs Q v0 v1 v2 v3 v4 (.inr r)) (fun s out e c => y_Y_readPart_201 e (by cases out <;> exact c)) e c
theorem L_Y_readPart_201_eq (v0 : Nat) (v1 : Nat) (v2 : Int32) (v3 : Int32) (v4 : Int32) (v5 : Int32) (g : g_S) : L_Y_readPart_201 v0 v1 v2 v3 v4 v5 g = itc (b_Y_readPart_201 v0 v1 v2 v3 v4 v5 g) (fun s => L_Y_readPart_201 v0 v1 v2 v3 v4 s.1 s.2) := it_eq2 (fun s : Int32 × g_S => b_Y_readPart_201 v0 v1 v2 v3 v4 s.1 s.2) (v5, g)
noncomputable def k_Y_readPart_471 (v0 : Nat) (v5 : Int32) (g : g_S) : Option (Int32 × g_S) :=
  (wI g 112 v0 100 v5).bind fun g1 =>
  some ((-1), g1)
set_option maxRecDepth 20000 in
theorem x_Y_readPart_471 {L : Nat} {xs : Nat → Int32} {Q : Option Value → ab_H → Prop} {v0 : Nat} {v5 : Int32} {g : g_S} {out : Int32 × g_S} (e : k_Y_readPart_471 v0 v5 g = some out) (c : Q (some (.int out.1)) (hp out.2)) : wp (ab_ext L xs) J_Y_readPart 471 [(0, .ref v0), (5, .int v5)] [] (hp g) Q := by
  unfold k_Y_readPart_471 at e
  refine wp_p (j := J_Y_readPart) 2 (pc' := 474) (lv' := [(0, .ref v0), (5, .int v5)]) (st' := [.int v5, .ref v0]) rfl ?_
  refine x_pI e rfl rfl fw_12_100 rfl (fun g1 e => ?_)
  refine wp_p (j := J_Y_readPart) 1 (pc' := 478) (lv' := [(0, .ref v0), (5, .int v5)]) (st' := [.int (-1)]) rfl ?_
  have e := Option.some.inj e; subst e; exact wp_iret (ty := .int) rfl rfl rfl c
noncomputable def k_Y_readPart_450 (v0 : Nat) (v3 : Int32) (v5 : Int32) (g : g_S) : Option (Int32 × g_S) :=
  (rQ g 112 v0 91).bind fun z1 =>
  (aI g 0 z1 v3).bind fun z2 =>
  if z2 = 0 then
    (rQ g 112 v0 93).bind fun z3 =>
    (aI g 0 z3 v3).bind fun z4 =>
    if z4 = 0 then
      some (v5, g)
    else
      k_Y_readPart_471 v0 v5 g
  else
    k_Y_readPart_471 v0 v5 g
set_option maxRecDepth 20000 in
theorem x_Y_readPart_450 {L : Nat} {xs : Nat → Int32} {Q : Option Value → ab_H → Prop} {v0 : Nat} {v3 : Int32} {v5 : Int32} {g : g_S} {out : Int32 × g_S} (e : k_Y_readPart_450 v0 v3 v5 g = some out) (c : Q (some (.int out.1)) (hp out.2)) : wp (ab_ext L xs) J_Y_readPart 450 [(0, .ref v0), (3, .int v3), (5, .int v5)] [] (hp g) Q := by
  unfold k_Y_readPart_450 at e
  refine wp_p (j := J_Y_readPart) 1 (pc' := 451) (lv' := [(0, .ref v0), (3, .int v3), (5, .int v5)]) (st' := [.ref v0]) rfl ?_
  refine x_gQ e rfl rfl fd_12_91 rfl (fun z1 e => ?_)
  refine wp_p (j := J_Y_readPart) 1 (pc' := 455) (lv' := [(0, .ref v0), (3, .int v3), (5, .int v5)]) (st' := [.int v3, .ref z1]) rfl ?_
  refine x_aI e rfl rfl (fun z2 e => ?_)
  refine z_ne e rfl (fun e => ?_) (fun e => ?_)
  · refine wp_p (j := J_Y_readPart) 1 (pc' := 460) (lv' := [(0, .ref v0), (3, .int v3), (5, .int v5)]) (st' := [.ref v0]) rfl ?_
    refine x_gQ e rfl rfl fd_12_93 rfl (fun z3 e => ?_)
    refine wp_p (j := J_Y_readPart) 1 (pc' := 464) (lv' := [(0, .ref v0), (3, .int v3), (5, .int v5)]) (st' := [.int v3, .ref z3]) rfl ?_
    refine x_aI e rfl rfl (fun z4 e => ?_)
    refine z_ne e rfl (fun e => ?_) (fun e => ?_)
    · refine wp_p (j := J_Y_readPart) 1 (pc' := 470) (lv' := [(0, .ref v0), (3, .int v3), (5, .int v5)]) (st' := [.int v5]) rfl ?_
      have e := Option.some.inj e; subst e; exact wp_iret (ty := .int) rfl rfl rfl c
    · exact wp_lv (lv' := [(0, .ref v0), (5, .int v5)]) rfl ⟨rfl, rfl, trivial⟩ (x_Y_readPart_471 e c)
  · exact wp_lv (lv' := [(0, .ref v0), (5, .int v5)]) rfl ⟨rfl, rfl, trivial⟩ (x_Y_readPart_471 e c)
noncomputable def k_Y_readPart_139 (v0 : Nat) (v1 : Nat) (v2 : Int32) (v3 : Int32) (v4 : Int32) (v5 : Int32) (v6 : Int32) (g : g_S) : Option (Int32 × g_S) :=
  (rQ g 112 v0 91).bind fun z1 =>
  (sI g z1 v3 (v6 - v5)).bind fun g2 =>
  (L_Y_readPart_154 v0 v1 v2 v3 v4 v5 v6 v5 g2).bind <| fun g5 =>
  (rQ g5 112 v0 97).bind fun z6 =>
  (aI g5 0 z6 v4).bind fun z7 =>
  (sI g5 z6 v4 (z7 + 1)).bind fun g8 =>
  (L_Y_readPart_201 v0 v1 v2 v3 v4 v6 g8).bind <|
    us (u2 fun z11 g12 =>
    some (z11, g12))
    (us (u2 fun z13 g14 =>
    some (z13, g14))
    (u2 fun z15 g16 =>
    k_Y_readPart_450 v0 v3 z15 g16))
set_option maxRecDepth 20000 in
theorem x_Y_readPart_139 {L : Nat} {xs : Nat → Int32} {Q : Option Value → ab_H → Prop} {v0 : Nat} {v1 : Nat} {v2 : Int32} {v3 : Int32} {v4 : Int32} {v5 : Int32} {v6 : Int32} {g : g_S} {out : Int32 × g_S} (e : k_Y_readPart_139 v0 v1 v2 v3 v4 v5 v6 g = some out) (c : Q (some (.int out.1)) (hp out.2)) : wp (ab_ext L xs) J_Y_readPart 139 [(0, .ref v0), (1, .ref v1), (2, .int v2), (3, .int v3), (4, .int v4), (5, .int v5), (6, .int v6)] [] (hp g) Q := by
  unfold k_Y_readPart_139 at e
  refine wp_p (j := J_Y_readPart) 1 (pc' := 140) (lv' := [(0, .ref v0), (1, .ref v1), (2, .int v2), (3, .int v3), (4, .int v4), (5, .int v5), (6, .int v6)]) (st' := [.ref v0]) rfl ?_
  refine x_gQ e rfl rfl fd_12_91 rfl (fun z1 e => ?_)
  refine wp_p (j := J_Y_readPart) 4 (pc' := 149) (lv' := [(0, .ref v0), (1, .ref v1), (2, .int v2), (3, .int v3), (4, .int v4), (5, .int v5), (6, .int v6)]) (st' := [.int (v6 - v5), .int v3, .ref z1]) rfl ?_
  refine x_sI e rfl rfl (fun g2 e => ?_)
  refine wp_p (j := J_Y_readPart) 2 (pc' := 154) (lv' := [(7, .int v5), (0, .ref v0), (1, .ref v1), (2, .int v2), (3, .int v3), (4, .int v4), (5, .int v5), (6, .int v6)]) (st' := []) rfl ?_
  obtain ⟨g5, h4, e⟩ := bd e
  refine wp_lv (lv' := [(0, .ref v0), (1, .ref v1), (2, .int v2), (3, .int v3), (4, .int v4), (5, .int v5), (6, .int v6), (7, .int v5)]) rfl ⟨rfl, rfl, rfl, rfl, rfl, rfl, rfl, rfl, trivial⟩ ?_
  refine l_Y_readPart_154 h4 ?_
  show wp (ab_ext L xs) J_Y_readPart 186 [(0, .ref v0), (1, .ref v1), (2, .int v2), (3, .int v3), (4, .int v4), (6, .int v6)] [] (hp g5) Q
  refine wp_p (j := J_Y_readPart) 1 (pc' := 187) (lv' := [(0, .ref v0), (1, .ref v1), (2, .int v2), (3, .int v3), (4, .int v4), (6, .int v6)]) (st' := [.ref v0]) rfl ?_
  refine x_gQ e rfl rfl fd_12_97 rfl (fun z6 e => ?_)
  refine wp_p (j := J_Y_readPart) 2 (pc' := 193) (lv' := [(0, .ref v0), (1, .ref v1), (2, .int v2), (3, .int v3), (4, .int v4), (6, .int v6)]) (st' := [.int v4, .ref z6, .int v4, .ref z6]) rfl ?_
  refine x_aI e rfl rfl (fun z7 e => ?_)
  refine wp_p (j := J_Y_readPart) 2 (pc' := 196) (lv' := [(0, .ref v0), (1, .ref v1), (2, .int v2), (3, .int v3), (4, .int v4), (6, .int v6)]) (st' := [.int (z7 + 1), .int v4, .ref z6]) rfl ?_
  refine x_sI e rfl rfl (fun g8 e => ?_)
  refine wp_p (j := J_Y_readPart) 2 (pc' := 201) (lv' := [(5, .int v6), (0, .ref v0), (1, .ref v1), (2, .int v2), (3, .int v3), (4, .int v4), (6, .int v6)]) (st' := []) rfl ?_
  obtain ⟨s9, h10, e⟩ := bd e
  refine wp_lv (lv' := [(0, .ref v0), (1, .ref v1), (2, .int v2), (3, .int v3), (4, .int v4), (5, .int v6)]) rfl ⟨rfl, rfl, rfl, rfl, rfl, rfl, trivial⟩ ?_
  refine l_Y_readPart_201 h10 ?_
  rcases s9 with ⟨z11, g12⟩ | ⟨z13, g14⟩ | ⟨z15, g16⟩
  · replace e := (u2_e (us_l e))
    show wp (ab_ext L xs) J_Y_readPart 277 [(5, .int z11)] [] (hp g12) Q
    refine wp_p (j := J_Y_readPart) 1 (pc' := 279) (lv' := [(5, .int z11)]) (st' := [.int z11]) rfl ?_
    have e := Option.some.inj e; subst e; exact wp_iret (ty := .int) rfl rfl rfl c
  · replace e := (u2_e (us_l (us_r e)))
    show wp (ab_ext L xs) J_Y_readPart 352 [(7, .int z13)] [] (hp g14) Q
    refine wp_p (j := J_Y_readPart) 1 (pc' := 354) (lv' := [(7, .int z13)]) (st' := [.int z13]) rfl ?_
    have e := Option.some.inj e; subst e; exact wp_iret (ty := .int) rfl rfl rfl c
  · replace e := (u2_e (us_r (us_r e)))
    show wp (ab_ext L xs) J_Y_readPart 450 [(0, .ref v0), (3, .int v3), (5, .int z15)] [] (hp g16) Q
    exact wp_lv (lv' := [(0, .ref v0), (3, .int v3), (5, .int z15)]) rfl ⟨rfl, rfl, rfl, trivial⟩ (x_Y_readPart_450 e c)
noncomputable def k_Y_readPart_110 (v0 : Nat) (v1 : Nat) (v2 : Int32) (v3 : Int32) (v4 : Int32) (v5 : Int32) (v6 : Int32) (g : g_S) : Option (Int32 × g_S) :=
  if v6 < v2 then
    (aI g 1 v1 v6).bind fun z1 =>
    (M_Y_isSmall z1 g).bind fun z2 =>
    if z2 = 0 then
      (aI g 1 v1 v6).bind fun z3 =>
      (M_Y_isDigit z3 g).bind fun z4 =>
      if z4 = 0 then
        k_Y_readPart_139 v0 v1 v2 v3 v4 v5 v6 g
      else
        some (v6, g)
    else
      some (v6, g)
  else
    k_Y_readPart_139 v0 v1 v2 v3 v4 v5 v6 g
set_option maxRecDepth 20000 in
theorem x_Y_readPart_110 {L : Nat} {xs : Nat → Int32} {Q : Option Value → ab_H → Prop} {v0 : Nat} {v1 : Nat} {v2 : Int32} {v3 : Int32} {v4 : Int32} {v5 : Int32} {v6 : Int32} {g : g_S} {out : Int32 × g_S} (e : k_Y_readPart_110 v0 v1 v2 v3 v4 v5 v6 g = some out) (c : Q (some (.int out.1)) (hp out.2)) : wp (ab_ext L xs) J_Y_readPart 110 [(0, .ref v0), (1, .ref v1), (2, .int v2), (3, .int v3), (4, .int v4), (5, .int v5), (6, .int v6)] [] (hp g) Q := by
  unfold k_Y_readPart_110 at e
  refine wp_p (j := J_Y_readPart) 2 (pc' := 113) (lv' := [(0, .ref v0), (1, .ref v1), (2, .int v2), (3, .int v3), (4, .int v4), (5, .int v5), (6, .int v6)]) (st' := [.int v2, .int v6]) rfl ?_
  refine x_ge e rfl (fun e => ?_) (fun e => ?_)
  · refine wp_p (j := J_Y_readPart) 2 (pc' := 119) (lv' := [(0, .ref v0), (1, .ref v1), (2, .int v2), (3, .int v3), (4, .int v4), (5, .int v5), (6, .int v6)]) (st' := [.int v6, .ref v1]) rfl ?_
    refine x_aB e rfl (.inl rfl) rfl (fun z1 e => ?_)
    refine x_cs1 (As := [.int z1]) (rest := []) Value.int e rfl rfl rfl rfl rfl (fun h => d_Y_isSmall h ⟨rfl, rfl⟩) (fun z2 e => ?_)
    refine z_ne e rfl (fun e => ?_) (fun e => ?_)
    · refine wp_p (j := J_Y_readPart) 2 (pc' := 129) (lv' := [(0, .ref v0), (1, .ref v1), (2, .int v2), (3, .int v3), (4, .int v4), (5, .int v5), (6, .int v6)]) (st' := [.int v6, .ref v1]) rfl ?_
      refine x_aB e rfl (.inl rfl) rfl (fun z3 e => ?_)
      refine x_cs1 (As := [.int z3]) (rest := []) Value.int e rfl rfl rfl rfl rfl (fun h => d_Y_isDigit h ⟨rfl, rfl⟩) (fun z4 e => ?_)
      refine z_eq e rfl (fun e => ?_) (fun e => ?_)
      · exact wp_lv (lv' := [(0, .ref v0), (1, .ref v1), (2, .int v2), (3, .int v3), (4, .int v4), (5, .int v5), (6, .int v6)]) rfl ⟨rfl, rfl, rfl, rfl, rfl, rfl, rfl, trivial⟩ (x_Y_readPart_139 e c)
      · refine wp_p (j := J_Y_readPart) 1 (pc' := 138) (lv' := [(0, .ref v0), (1, .ref v1), (2, .int v2), (3, .int v3), (4, .int v4), (5, .int v5), (6, .int v6)]) (st' := [.int v6]) rfl ?_
        have e := Option.some.inj e; subst e; exact wp_iret (ty := .int) rfl rfl rfl c
    · refine wp_p (j := J_Y_readPart) 1 (pc' := 138) (lv' := [(0, .ref v0), (1, .ref v1), (2, .int v2), (3, .int v3), (4, .int v4), (5, .int v5), (6, .int v6)]) (st' := [.int v6]) rfl ?_
      have e := Option.some.inj e; subst e; exact wp_iret (ty := .int) rfl rfl rfl c
  · exact wp_lv (lv' := [(0, .ref v0), (1, .ref v1), (2, .int v2), (3, .int v3), (4, .int v4), (5, .int v5), (6, .int v6)]) rfl ⟨rfl, rfl, rfl, rfl, rfl, rfl, rfl, trivial⟩ (x_Y_readPart_139 e c)
noncomputable def k_Y_readPart_48 (v0 : Nat) (v1 : Nat) (v2 : Int32) (v3 : Int32) (v4 : Int32) (v5 : Int32) (g : g_S) : Option (Int32 × g_S) :=
  if v5 < v2 then
    (aI g 1 v1 v5).bind fun z1 =>
    (M_Y_isSmall z1 g).bind fun z2 =>
    if z2 = 0 then
      (L_Y_readPart_201 v0 v1 v2 v3 v4 v5 g).bind <|
        us (u2 fun z5 g6 =>
        some (z5, g6))
        (us (u2 fun z7 g8 =>
        some (z7, g8))
        (u2 fun z9 g10 =>
        k_Y_readPart_450 v0 v3 z9 g10))
    else
      (L_Y_readPart_68 v0 v1 v2 v3 v4 v5 v5 g).bind <| fun z13 =>
      k_Y_readPart_110 v0 v1 v2 v3 v4 v5 z13 g
  else
    (L_Y_readPart_201 v0 v1 v2 v3 v4 v5 g).bind <|
      us (u2 fun z16 g17 =>
      some (z16, g17))
      (us (u2 fun z18 g19 =>
      some (z18, g19))
      (u2 fun z20 g21 =>
      k_Y_readPart_450 v0 v3 z20 g21))
set_option maxRecDepth 20000 in
theorem x_Y_readPart_48 {L : Nat} {xs : Nat → Int32} {Q : Option Value → ab_H → Prop} {v0 : Nat} {v1 : Nat} {v2 : Int32} {v3 : Int32} {v4 : Int32} {v5 : Int32} {g : g_S} {out : Int32 × g_S} (e : k_Y_readPart_48 v0 v1 v2 v3 v4 v5 g = some out) (c : Q (some (.int out.1)) (hp out.2)) : wp (ab_ext L xs) J_Y_readPart 48 [(0, .ref v0), (1, .ref v1), (2, .int v2), (3, .int v3), (4, .int v4), (5, .int v5)] [] (hp g) Q := by
  unfold k_Y_readPart_48 at e
  refine wp_p (j := J_Y_readPart) 2 (pc' := 51) (lv' := [(0, .ref v0), (1, .ref v1), (2, .int v2), (3, .int v3), (4, .int v4), (5, .int v5)]) (st' := [.int v2, .int v5]) rfl ?_
  refine x_ge e rfl (fun e => ?_) (fun e => ?_)
  · refine wp_p (j := J_Y_readPart) 2 (pc' := 57) (lv' := [(0, .ref v0), (1, .ref v1), (2, .int v2), (3, .int v3), (4, .int v4), (5, .int v5)]) (st' := [.int v5, .ref v1]) rfl ?_
    refine x_aB e rfl (.inl rfl) rfl (fun z1 e => ?_)
    refine x_cs1 (As := [.int z1]) (rest := []) Value.int e rfl rfl rfl rfl rfl (fun h => d_Y_isSmall h ⟨rfl, rfl⟩) (fun z2 e => ?_)
    refine z_eq e rfl (fun e => ?_) (fun e => ?_)
    · obtain ⟨s3, h4, e⟩ := bd e
      refine wp_lv (lv' := [(0, .ref v0), (1, .ref v1), (2, .int v2), (3, .int v3), (4, .int v4), (5, .int v5)]) rfl ⟨rfl, rfl, rfl, rfl, rfl, rfl, trivial⟩ ?_
      refine l_Y_readPart_201 h4 ?_
      rcases s3 with ⟨z5, g6⟩ | ⟨z7, g8⟩ | ⟨z9, g10⟩
      · replace e := (u2_e (us_l e))
        show wp (ab_ext L xs) J_Y_readPart 277 [(5, .int z5)] [] (hp g6) Q
        refine wp_p (j := J_Y_readPart) 1 (pc' := 279) (lv' := [(5, .int z5)]) (st' := [.int z5]) rfl ?_
        have e := Option.some.inj e; subst e; exact wp_iret (ty := .int) rfl rfl rfl c
      · replace e := (u2_e (us_l (us_r e)))
        show wp (ab_ext L xs) J_Y_readPart 352 [(7, .int z7)] [] (hp g8) Q
        refine wp_p (j := J_Y_readPart) 1 (pc' := 354) (lv' := [(7, .int z7)]) (st' := [.int z7]) rfl ?_
        have e := Option.some.inj e; subst e; exact wp_iret (ty := .int) rfl rfl rfl c
      · replace e := (u2_e (us_r (us_r e)))
        show wp (ab_ext L xs) J_Y_readPart 450 [(0, .ref v0), (3, .int v3), (5, .int z9)] [] (hp g10) Q
        exact wp_lv (lv' := [(0, .ref v0), (3, .int v3), (5, .int z9)]) rfl ⟨rfl, rfl, rfl, trivial⟩ (x_Y_readPart_450 e c)
    · refine wp_p (j := J_Y_readPart) 2 (pc' := 68) (lv' := [(6, .int v5), (0, .ref v0), (1, .ref v1), (2, .int v2), (3, .int v3), (4, .int v4), (5, .int v5)]) (st' := []) rfl ?_
      obtain ⟨z13, h12, e⟩ := bd e
      refine wp_lv (lv' := [(0, .ref v0), (1, .ref v1), (2, .int v2), (3, .int v3), (4, .int v4), (5, .int v5), (6, .int v5)]) rfl ⟨rfl, rfl, rfl, rfl, rfl, rfl, rfl, trivial⟩ ?_
      refine l_Y_readPart_68 h12 ?_
      show wp (ab_ext L xs) J_Y_readPart 110 [(0, .ref v0), (1, .ref v1), (2, .int v2), (3, .int v3), (4, .int v4), (5, .int v5), (6, .int z13)] [] (hp g) Q
      exact wp_lv (lv' := [(0, .ref v0), (1, .ref v1), (2, .int v2), (3, .int v3), (4, .int v4), (5, .int v5), (6, .int z13)]) rfl ⟨rfl, rfl, rfl, rfl, rfl, rfl, rfl, trivial⟩ (x_Y_readPart_110 e c)
  · obtain ⟨s14, h15, e⟩ := bd e
    refine wp_lv (lv' := [(0, .ref v0), (1, .ref v1), (2, .int v2), (3, .int v3), (4, .int v4), (5, .int v5)]) rfl ⟨rfl, rfl, rfl, rfl, rfl, rfl, trivial⟩ ?_
    refine l_Y_readPart_201 h15 ?_
    rcases s14 with ⟨z16, g17⟩ | ⟨z18, g19⟩ | ⟨z20, g21⟩
    · replace e := (u2_e (us_l e))
      show wp (ab_ext L xs) J_Y_readPart 277 [(5, .int z16)] [] (hp g17) Q
      refine wp_p (j := J_Y_readPart) 1 (pc' := 279) (lv' := [(5, .int z16)]) (st' := [.int z16]) rfl ?_
      have e := Option.some.inj e; subst e; exact wp_iret (ty := .int) rfl rfl rfl c
    · replace e := (u2_e (us_l (us_r e)))
      show wp (ab_ext L xs) J_Y_readPart 352 [(7, .int z18)] [] (hp g19) Q
      refine wp_p (j := J_Y_readPart) 1 (pc' := 354) (lv' := [(7, .int z18)]) (st' := [.int z18]) rfl ?_
      have e := Option.some.inj e; subst e; exact wp_iret (ty := .int) rfl rfl rfl c
    · replace e := (u2_e (us_r (us_r e)))
      show wp (ab_ext L xs) J_Y_readPart 450 [(0, .ref v0), (3, .int v3), (5, .int z20)] [] (hp g21) Q
      exact wp_lv (lv' := [(0, .ref v0), (3, .int v3), (5, .int z20)]) rfl ⟨rfl, rfl, rfl, trivial⟩ (x_Y_readPart_450 e c)
noncomputable def M_Y_readPart (v0 : Nat) (v1 : Nat) (v2 : Int32) (v3 : Int32) (v4 : Int32) (g : g_S) : Option (Int32 × g_S) :=
  (rI g 112 v0 100).bind fun z1 =>
  (rQ g 112 v0 91).bind fun z2 =>
  (sI g z2 v3 0).bind fun g3 =>
  (rQ g3 112 v0 93).bind fun z4 =>
  (sI g3 z4 v3 0).bind fun g5 =>
  if z1 < v2 then
    (aI g5 1 v1 z1).bind fun z6 =>
    if z6 = 42 then
      (rQ g5 112 v0 91).bind fun z7 =>
      (sI g5 z7 v3 (-1)).bind fun g8 =>
      (L_Y_readPart_201 v0 v1 v2 v3 v4 (z1 + 1) g8).bind <|
        us (u2 fun z11 g12 =>
        some (z11, g12))
        (us (u2 fun z13 g14 =>
        some (z13, g14))
        (u2 fun z15 g16 =>
        k_Y_readPart_450 v0 v3 z15 g16))
    else
      k_Y_readPart_48 v0 v1 v2 v3 v4 z1 g5
  else
    k_Y_readPart_48 v0 v1 v2 v3 v4 z1 g5
set_option maxRecDepth 20000 in
theorem d_Y_readPart {L : Nat} {xs : Nat → Int32} {Q : Option Value → ab_H → Prop} {v0 : Nat} {v1 : Nat} {v2 : Int32} {v3 : Int32} {v4 : Int32} {g : g_S} {out : Int32 × g_S} (e : M_Y_readPart v0 v1 v2 v3 v4 g = some out) (c : Q (some (.int out.1)) (hp out.2)) : mw (ab_ext L xs) J_Y_readPart [.ref v0, .ref v1, .int v2, .int v3, .int v4] (hp g) Q := by
  unfold M_Y_readPart at e
  refine wp_p (j := J_Y_readPart) 1 (pc' := 1) (lv' := [(0, .ref v0), (1, .ref v1), (2, .int v2), (3, .int v3), (4, .int v4)]) (st' := [.ref v0]) rfl ?_
  refine x_gI e rfl rfl fd_12_100 rfl (fun z1 e => ?_)
  refine wp_p (j := J_Y_readPart) 2 (pc' := 7) (lv' := [(5, .int z1), (0, .ref v0), (1, .ref v1), (2, .int v2), (3, .int v3), (4, .int v4)]) (st' := [.ref v0]) rfl ?_
  refine x_gQ e rfl rfl fd_12_91 rfl (fun z2 e => ?_)
  refine wp_p (j := J_Y_readPart) 2 (pc' := 12) (lv' := [(5, .int z1), (0, .ref v0), (1, .ref v1), (2, .int v2), (3, .int v3), (4, .int v4)]) (st' := [.int 0, .int v3, .ref z2]) rfl ?_
  refine x_sI e rfl rfl (fun g3 e => ?_)
  refine wp_p (j := J_Y_readPart) 1 (pc' := 14) (lv' := [(5, .int z1), (0, .ref v0), (1, .ref v1), (2, .int v2), (3, .int v3), (4, .int v4)]) (st' := [.ref v0]) rfl ?_
  refine x_gQ e rfl rfl fd_12_93 rfl (fun z4 e => ?_)
  refine wp_p (j := J_Y_readPart) 2 (pc' := 19) (lv' := [(5, .int z1), (0, .ref v0), (1, .ref v1), (2, .int v2), (3, .int v3), (4, .int v4)]) (st' := [.int 0, .int v3, .ref z4]) rfl ?_
  refine x_sI e rfl rfl (fun g5 e => ?_)
  refine wp_p (j := J_Y_readPart) 2 (pc' := 23) (lv' := [(5, .int z1), (0, .ref v0), (1, .ref v1), (2, .int v2), (3, .int v3), (4, .int v4)]) (st' := [.int v2, .int z1]) rfl ?_
  refine x_ge e rfl (fun e => ?_) (fun e => ?_)
  · refine wp_p (j := J_Y_readPart) 2 (pc' := 29) (lv' := [(5, .int z1), (0, .ref v0), (1, .ref v1), (2, .int v2), (3, .int v3), (4, .int v4)]) (st' := [.int z1, .ref v1]) rfl ?_
    refine x_aB e rfl (.inl rfl) rfl (fun z6 e => ?_)
    refine wp_p (j := J_Y_readPart) 1 (pc' := 32) (lv' := [(5, .int z1), (0, .ref v0), (1, .ref v1), (2, .int v2), (3, .int v3), (4, .int v4)]) (st' := [.int 42, .int z6]) rfl ?_
    refine x_ne e rfl (fun e => ?_) (fun e => ?_)
    · refine wp_p (j := J_Y_readPart) 1 (pc' := 36) (lv' := [(5, .int z1), (0, .ref v0), (1, .ref v1), (2, .int v2), (3, .int v3), (4, .int v4)]) (st' := [.ref v0]) rfl ?_
      refine x_gQ e rfl rfl fd_12_91 rfl (fun z7 e => ?_)
      refine wp_p (j := J_Y_readPart) 2 (pc' := 41) (lv' := [(5, .int z1), (0, .ref v0), (1, .ref v1), (2, .int v2), (3, .int v3), (4, .int v4)]) (st' := [.int (-1), .int v3, .ref z7]) rfl ?_
      refine x_sI e rfl rfl (fun g8 e => ?_)
      refine wp_p (j := J_Y_readPart) 2 (pc' := 201) (lv' := [(5, .int (z1 + 1)), (0, .ref v0), (1, .ref v1), (2, .int v2), (3, .int v3), (4, .int v4)]) (st' := []) rfl ?_
      obtain ⟨s9, h10, e⟩ := bd e
      refine wp_lv (lv' := [(0, .ref v0), (1, .ref v1), (2, .int v2), (3, .int v3), (4, .int v4), (5, .int (z1 + 1))]) rfl ⟨rfl, rfl, rfl, rfl, rfl, rfl, trivial⟩ ?_
      refine l_Y_readPart_201 h10 ?_
      rcases s9 with ⟨z11, g12⟩ | ⟨z13, g14⟩ | ⟨z15, g16⟩
      · replace e := (u2_e (us_l e))
        show wp (ab_ext L xs) J_Y_readPart 277 [(5, .int z11)] [] (hp g12) Q
        refine wp_p (j := J_Y_readPart) 1 (pc' := 279) (lv' := [(5, .int z11)]) (st' := [.int z11]) rfl ?_
        have e := Option.some.inj e; subst e; exact wp_iret (ty := .int) rfl rfl rfl c
      · replace e := (u2_e (us_l (us_r e)))
        show wp (ab_ext L xs) J_Y_readPart 352 [(7, .int z13)] [] (hp g14) Q
        refine wp_p (j := J_Y_readPart) 1 (pc' := 354) (lv' := [(7, .int z13)]) (st' := [.int z13]) rfl ?_
        have e := Option.some.inj e; subst e; exact wp_iret (ty := .int) rfl rfl rfl c
      · replace e := (u2_e (us_r (us_r e)))
        show wp (ab_ext L xs) J_Y_readPart 450 [(0, .ref v0), (3, .int v3), (5, .int z15)] [] (hp g16) Q
        exact wp_lv (lv' := [(0, .ref v0), (3, .int v3), (5, .int z15)]) rfl ⟨rfl, rfl, rfl, trivial⟩ (x_Y_readPart_450 e c)
    · exact wp_lv (lv' := [(0, .ref v0), (1, .ref v1), (2, .int v2), (3, .int v3), (4, .int v4), (5, .int z1)]) rfl ⟨rfl, rfl, rfl, rfl, rfl, rfl, trivial⟩ (x_Y_readPart_48 e c)
  · exact wp_lv (lv' := [(0, .ref v0), (1, .ref v1), (2, .int v2), (3, .int v3), (4, .int v4), (5, .int z1)]) rfl ⟨rfl, rfl, rfl, rfl, rfl, rfl, trivial⟩ (x_Y_readPart_48 e c)
def cL_Y_readSelector_65 (L : Nat) (xs : Nat → Int32) (Q : Option Value → ab_H → Prop) (v0 : Nat) (v1 : Nat) (v2 : Int32) (v3 : Int32) (v4 : Int32) (g : g_S) (out : (Int32) ⊕ (Int32)) : Prop := match out with
  | .inl s => wp (ab_ext L xs) J_Y_readSelector 65 [(0, .ref v0), (1, .ref v1), (2, .int v2), (3, .int v3), (4, .int v4), (7, .int s)] [] (hp g) Q
  | .inr s => wp (ab_ext L xs) J_Y_readSelector 87 [(0, .ref v0), (1, .ref v1), (2, .int v2), (3, .int v3), (4, .int v4), (7, .int s)] [] (hp g) Q
noncomputable def b_Y_readSelector_65 (v0 : Nat) (v1 : Nat) (v2 : Int32) (v3 : Int32) (v4 : Int32) (v7 : Int32) (g : g_S) : Option ((Int32) ⊕ (Int32)) :=
  if v7 < v2 then
    (aI g 1 v1 v7).bind fun z1 =>
    (M_Y_isBlank z1 g).bind fun z2 =>
    if z2 = 0 then
      some (.inr v7)
    else
      some (.inl (v7 + 1))
  else
    some (.inr v7)
set_option maxRecDepth 20000 in
theorem y_Y_readSelector_65 {L : Nat} {xs : Nat → Int32} {Q : Option Value → ab_H → Prop} {v0 : Nat} {v1 : Nat} {v2 : Int32} {v3 : Int32} {v4 : Int32} {v7 : Int32} {g : g_S} {out : (Int32) ⊕ (Int32)} (e : b_Y_readSelector_65 v0 v1 v2 v3 v4 v7 g = some out) (c : cL_Y_readSelector_65 L xs Q v0 v1 v2 v3 v4 g out) : wp (ab_ext L xs) J_Y_readSelector 65 [(0, .ref v0), (1, .ref v1), (2, .int v2), (3, .int v3), (4, .int v4), (7, .int v7)] [] (hp g) Q := by
  unfold b_Y_readSelector_65 at e
  refine wp_p (j := J_Y_readSelector) 2 (pc' := 68) (lv' := [(0, .ref v0), (1, .ref v1), (2, .int v2), (3, .int v3), (4, .int v4), (7, .int v7)]) (st' := [.int v2, .int v7]) rfl ?_
  refine x_ge e rfl (fun e => ?_) (fun e => ?_)
  · refine wp_p (j := J_Y_readSelector) 2 (pc' := 74) (lv' := [(0, .ref v0), (1, .ref v1), (2, .int v2), (3, .int v3), (4, .int v4), (7, .int v7)]) (st' := [.int v7, .ref v1]) rfl ?_
    refine x_aB e rfl (.inl rfl) rfl (fun z1 e => ?_)
    refine x_cs1 (As := [.int z1]) (rest := []) Value.int e rfl rfl rfl rfl rfl (fun h => d_Y_isBlank h ⟨rfl, rfl⟩) (fun z2 e => ?_)
    refine z_eq e rfl (fun e => ?_) (fun e => ?_)
    · have e := Option.some.inj e; subst e; exact wp_lv (lv' := [(0, .ref v0), (1, .ref v1), (2, .int v2), (3, .int v3), (4, .int v4), (7, .int v7)]) rfl ⟨rfl, rfl, rfl, rfl, rfl, rfl, trivial⟩ c
    · refine wp_p (j := J_Y_readSelector) 2 (pc' := 65) (lv' := [(7, .int (v7 + 1)), (0, .ref v0), (1, .ref v1), (2, .int v2), (3, .int v3), (4, .int v4)]) (st' := []) rfl ?_
      have e := Option.some.inj e; subst e; exact wp_lv (lv' := [(0, .ref v0), (1, .ref v1), (2, .int v2), (3, .int v3), (4, .int v4), (7, .int (v7 + 1))]) rfl ⟨rfl, rfl, rfl, rfl, rfl, rfl, trivial⟩ c
  · have e := Option.some.inj e; subst e; exact wp_lv (lv' := [(0, .ref v0), (1, .ref v1), (2, .int v2), (3, .int v3), (4, .int v4), (7, .int v7)]) rfl ⟨rfl, rfl, rfl, rfl, rfl, rfl, trivial⟩ c
noncomputable def L_Y_readSelector_65 (v0 : Nat) (v1 : Nat) (v2 : Int32) (v3 : Int32) (v4 : Int32) (v7 : Int32) (g : g_S) : Option (Int32) := it (fun s : Int32 => b_Y_readSelector_65 v0 v1 v2 v3 v4 s g) (v7)
theorem l_Y_readSelector_65 {L : Nat} {xs : Nat → Int32} {Q : Option Value → ab_H → Prop} {v0 : Nat} {v1 : Nat} {v2 : Int32} {v3 : Int32} {v4 : Int32} {v7 : Int32} {g : g_S} {r : Int32} (e : L_Y_readSelector_65 v0 v1 v2 v3 v4 v7 g = some r) (c : cL_Y_readSelector_65 L xs Q v0 v1 v2 v3 v4 g (.inr r)) : wp (ab_ext L xs) J_Y_readSelector 65 [(0, .ref v0), (1, .ref v1), (2, .int v2), (3, .int v3), (4, .int v4), (7, .int v7)] [] (hp g) Q :=
  it_wp (P := fun s : Int32 => wp (ab_ext L xs) J_Y_readSelector 65 [(0, .ref v0), (1, .ref v1), (2, .int v2), (3, .int v3), (4, .int v4), (7, .int s)] [] (hp g) Q) (E := fun r => cL_Y_readSelector_65 L xs Q v0 v1 v2 v3 v4 g (.inr r)) (fun s out e c => y_Y_readSelector_65 e (by cases out <;> exact c)) e c
theorem L_Y_readSelector_65_eq (v0 : Nat) (v1 : Nat) (v2 : Int32) (v3 : Int32) (v4 : Int32) (v7 : Int32) (g : g_S) : L_Y_readSelector_65 v0 v1 v2 v3 v4 v7 g = itc (b_Y_readSelector_65 v0 v1 v2 v3 v4 v7 g) (fun s => L_Y_readSelector_65 v0 v1 v2 v3 v4 s g) := it_eq2 (fun s : Int32 => b_Y_readSelector_65 v0 v1 v2 v3 v4 s g) (v7)
def cL_Y_readSelector_17 (L : Nat) (xs : Nat → Int32) (Q : Option Value → ab_H → Prop) (v0 : Nat) (v1 : Nat) (v2 : Int32) (v3 : Int32) (v4 : Int32) (out : (Int32 × g_S) ⊕ ((Int32 × g_S) ⊕ (g_S))) : Prop := match out with
  | .inl s => wp (ab_ext L xs) J_Y_readSelector 17 [(0, .ref v0), (1, .ref v1), (2, .int v2), (3, .int v3), (4, .int v4), (5, .int s.1)] [] (hp s.2) Q
  | .inr (.inl s) => wp (ab_ext L xs) J_Y_readSelector 46 [(6, .int s.1)] [] (hp s.2) Q
  | .inr (.inr s) => wp (ab_ext L xs) J_Y_readSelector 147 [] [] (hp s) Q
noncomputable def k_Y_readSelector_131 (v0 : Nat) (v1 : Nat) (v2 : Int32) (v3 : Int32) (v4 : Int32) (v7 : Int32) (w0 : Int32) (g : g_S) : Option ((Int32 × g_S) ⊕ ((Int32 × g_S) ⊕ (g_S))) :=
  if w0 = 0 then
    some (.inl (w0, g))
  else
    (wI g 112 v0 100 v7).bind fun g1 =>
    some (.inl (w0, g1))
set_option maxRecDepth 20000 in
theorem x_Y_readSelector_131 {L : Nat} {xs : Nat → Int32} {Q : Option Value → ab_H → Prop} {v0 : Nat} {v1 : Nat} {v2 : Int32} {v3 : Int32} {v4 : Int32} {v7 : Int32} {w0 : Int32} {g : g_S} {out : (Int32 × g_S) ⊕ ((Int32 × g_S) ⊕ (g_S))} (e : k_Y_readSelector_131 v0 v1 v2 v3 v4 v7 w0 g = some out) (c : cL_Y_readSelector_17 L xs Q v0 v1 v2 v3 v4 out) : wp (ab_ext L xs) J_Y_readSelector 131 [(0, .ref v0), (1, .ref v1), (2, .int v2), (3, .int v3), (4, .int v4), (7, .int v7)] [.int w0] (hp g) Q := by
  unfold k_Y_readSelector_131 at e
  refine wp_p (j := J_Y_readSelector) 2 (pc' := 135) (lv' := [(5, .int w0), (0, .ref v0), (1, .ref v1), (2, .int v2), (3, .int v3), (4, .int v4), (7, .int v7)]) (st' := [.int w0]) rfl ?_
  refine z_eq e rfl (fun e => ?_) (fun e => ?_)
  · refine wp_p (j := J_Y_readSelector) 1 (pc' := 17) (lv' := [(5, .int w0), (0, .ref v0), (1, .ref v1), (2, .int v2), (3, .int v3), (4, .int v4), (7, .int v7)]) (st' := []) rfl ?_
    have e := Option.some.inj e; subst e; exact wp_lv (lv' := [(0, .ref v0), (1, .ref v1), (2, .int v2), (3, .int v3), (4, .int v4), (5, .int w0)]) rfl ⟨rfl, rfl, rfl, rfl, rfl, rfl, trivial⟩ c
  · refine wp_p (j := J_Y_readSelector) 2 (pc' := 141) (lv' := [(5, .int w0), (0, .ref v0), (1, .ref v1), (2, .int v2), (3, .int v3), (4, .int v4), (7, .int v7)]) (st' := [.int v7, .ref v0]) rfl ?_
    refine x_pI e rfl rfl fw_12_100 rfl (fun g1 e => ?_)
    refine wp_p (j := J_Y_readSelector) 1 (pc' := 17) (lv' := [(5, .int w0), (0, .ref v0), (1, .ref v1), (2, .int v2), (3, .int v3), (4, .int v4), (7, .int v7)]) (st' := []) rfl ?_
    have e := Option.some.inj e; subst e; exact wp_lv (lv' := [(0, .ref v0), (1, .ref v1), (2, .int v2), (3, .int v3), (4, .int v4), (5, .int w0)]) rfl ⟨rfl, rfl, rfl, rfl, rfl, rfl, trivial⟩ c
noncomputable def k_Y_readSelector_130 (v0 : Nat) (v1 : Nat) (v2 : Int32) (v3 : Int32) (v4 : Int32) (v7 : Int32) (g : g_S) : Option ((Int32 × g_S) ⊕ ((Int32 × g_S) ⊕ (g_S))) :=
  k_Y_readSelector_131 v0 v1 v2 v3 v4 v7 0 g
set_option maxRecDepth 20000 in
theorem x_Y_readSelector_130 {L : Nat} {xs : Nat → Int32} {Q : Option Value → ab_H → Prop} {v0 : Nat} {v1 : Nat} {v2 : Int32} {v3 : Int32} {v4 : Int32} {v7 : Int32} {g : g_S} {out : (Int32 × g_S) ⊕ ((Int32 × g_S) ⊕ (g_S))} (e : k_Y_readSelector_130 v0 v1 v2 v3 v4 v7 g = some out) (c : cL_Y_readSelector_17 L xs Q v0 v1 v2 v3 v4 out) : wp (ab_ext L xs) J_Y_readSelector 130 [(0, .ref v0), (1, .ref v1), (2, .int v2), (3, .int v3), (4, .int v4), (7, .int v7)] [] (hp g) Q := by
  unfold k_Y_readSelector_130 at e
  refine wp_p (j := J_Y_readSelector) 1 (pc' := 131) (lv' := [(0, .ref v0), (1, .ref v1), (2, .int v2), (3, .int v3), (4, .int v4), (7, .int v7)]) (st' := [.int 0]) rfl ?_
  exact wp_lv (lv' := [(0, .ref v0), (1, .ref v1), (2, .int v2), (3, .int v3), (4, .int v4), (7, .int v7)]) rfl ⟨rfl, rfl, rfl, rfl, rfl, rfl, trivial⟩ (x_Y_readSelector_131 e c)
noncomputable def k_Y_readSelector_126 (v0 : Nat) (v1 : Nat) (v2 : Int32) (v3 : Int32) (v4 : Int32) (v7 : Int32) (g : g_S) : Option ((Int32 × g_S) ⊕ ((Int32 × g_S) ⊕ (g_S))) :=
  k_Y_readSelector_131 v0 v1 v2 v3 v4 v7 1 g
set_option maxRecDepth 20000 in
theorem x_Y_readSelector_126 {L : Nat} {xs : Nat → Int32} {Q : Option Value → ab_H → Prop} {v0 : Nat} {v1 : Nat} {v2 : Int32} {v3 : Int32} {v4 : Int32} {v7 : Int32} {g : g_S} {out : (Int32 × g_S) ⊕ ((Int32 × g_S) ⊕ (g_S))} (e : k_Y_readSelector_126 v0 v1 v2 v3 v4 v7 g = some out) (c : cL_Y_readSelector_17 L xs Q v0 v1 v2 v3 v4 out) : wp (ab_ext L xs) J_Y_readSelector 126 [(0, .ref v0), (1, .ref v1), (2, .int v2), (3, .int v3), (4, .int v4), (7, .int v7)] [] (hp g) Q := by
  unfold k_Y_readSelector_126 at e
  refine wp_p (j := J_Y_readSelector) 2 (pc' := 131) (lv' := [(0, .ref v0), (1, .ref v1), (2, .int v2), (3, .int v3), (4, .int v4), (7, .int v7)]) (st' := [.int 1]) rfl ?_
  exact wp_lv (lv' := [(0, .ref v0), (1, .ref v1), (2, .int v2), (3, .int v3), (4, .int v4), (7, .int v7)]) rfl ⟨rfl, rfl, rfl, rfl, rfl, rfl, trivial⟩ (x_Y_readSelector_131 e c)
noncomputable def k_Y_readSelector_87 (v0 : Nat) (v1 : Nat) (v2 : Int32) (v3 : Int32) (v4 : Int32) (v7 : Int32) (g : g_S) : Option ((Int32 × g_S) ⊕ ((Int32 × g_S) ⊕ (g_S))) :=
  (rI g 112 v0 100).bind fun z1 =>
  if z1 < v7 then
    (rQ g 112 v0 90).bind fun z2 =>
    (aI g 0 z2 v3).bind fun z3 =>
    if z3 < 3 then
      if v4 = 0 then
        if v7 < v2 then
          (aI g 1 v1 v7).bind fun z4 =>
          if z4 = 44 then
            k_Y_readSelector_130 v0 v1 v2 v3 v4 v7 g
          else
            k_Y_readSelector_126 v0 v1 v2 v3 v4 v7 g
        else
          k_Y_readSelector_130 v0 v1 v2 v3 v4 v7 g
      else
        k_Y_readSelector_126 v0 v1 v2 v3 v4 v7 g
    else
      k_Y_readSelector_130 v0 v1 v2 v3 v4 v7 g
  else
    k_Y_readSelector_130 v0 v1 v2 v3 v4 v7 g
set_option maxRecDepth 20000 in
theorem x_Y_readSelector_87 {L : Nat} {xs : Nat → Int32} {Q : Option Value → ab_H → Prop} {v0 : Nat} {v1 : Nat} {v2 : Int32} {v3 : Int32} {v4 : Int32} {v7 : Int32} {g : g_S} {out : (Int32 × g_S) ⊕ ((Int32 × g_S) ⊕ (g_S))} (e : k_Y_readSelector_87 v0 v1 v2 v3 v4 v7 g = some out) (c : cL_Y_readSelector_17 L xs Q v0 v1 v2 v3 v4 out) : wp (ab_ext L xs) J_Y_readSelector 87 [(0, .ref v0), (1, .ref v1), (2, .int v2), (3, .int v3), (4, .int v4), (7, .int v7)] [] (hp g) Q := by
  unfold k_Y_readSelector_87 at e
  refine wp_p (j := J_Y_readSelector) 2 (pc' := 90) (lv' := [(0, .ref v0), (1, .ref v1), (2, .int v2), (3, .int v3), (4, .int v4), (7, .int v7)]) (st' := [.ref v0, .int v7]) rfl ?_
  refine x_gI e rfl rfl fd_12_100 rfl (fun z1 e => ?_)
  refine x_le e rfl (fun e => ?_) (fun e => ?_)
  · refine wp_p (j := J_Y_readSelector) 1 (pc' := 97) (lv' := [(0, .ref v0), (1, .ref v1), (2, .int v2), (3, .int v3), (4, .int v4), (7, .int v7)]) (st' := [.ref v0]) rfl ?_
    refine x_gQ e rfl rfl fd_12_90 rfl (fun z2 e => ?_)
    refine wp_p (j := J_Y_readSelector) 1 (pc' := 101) (lv' := [(0, .ref v0), (1, .ref v1), (2, .int v2), (3, .int v3), (4, .int v4), (7, .int v7)]) (st' := [.int v3, .ref z2]) rfl ?_
    refine x_aI e rfl rfl (fun z3 e => ?_)
    refine wp_p (j := J_Y_readSelector) 1 (pc' := 103) (lv' := [(0, .ref v0), (1, .ref v1), (2, .int v2), (3, .int v3), (4, .int v4), (7, .int v7)]) (st' := [.int 3, .int z3]) rfl ?_
    refine x_ge e rfl (fun e => ?_) (fun e => ?_)
    · refine wp_p (j := J_Y_readSelector) 1 (pc' := 108) (lv' := [(0, .ref v0), (1, .ref v1), (2, .int v2), (3, .int v3), (4, .int v4), (7, .int v7)]) (st' := [.int v4]) rfl ?_
      refine z_ne e rfl (fun e => ?_) (fun e => ?_)
      · refine wp_p (j := J_Y_readSelector) 2 (pc' := 114) (lv' := [(0, .ref v0), (1, .ref v1), (2, .int v2), (3, .int v3), (4, .int v4), (7, .int v7)]) (st' := [.int v2, .int v7]) rfl ?_
        refine x_ge e rfl (fun e => ?_) (fun e => ?_)
        · refine wp_p (j := J_Y_readSelector) 2 (pc' := 120) (lv' := [(0, .ref v0), (1, .ref v1), (2, .int v2), (3, .int v3), (4, .int v4), (7, .int v7)]) (st' := [.int v7, .ref v1]) rfl ?_
          refine x_aB e rfl (.inl rfl) rfl (fun z4 e => ?_)
          refine wp_p (j := J_Y_readSelector) 1 (pc' := 123) (lv' := [(0, .ref v0), (1, .ref v1), (2, .int v2), (3, .int v3), (4, .int v4), (7, .int v7)]) (st' := [.int 44, .int z4]) rfl ?_
          refine x_eq e rfl (fun e => ?_) (fun e => ?_)
          · exact wp_lv (lv' := [(0, .ref v0), (1, .ref v1), (2, .int v2), (3, .int v3), (4, .int v4), (7, .int v7)]) rfl ⟨rfl, rfl, rfl, rfl, rfl, rfl, trivial⟩ (x_Y_readSelector_130 e c)
          · exact wp_lv (lv' := [(0, .ref v0), (1, .ref v1), (2, .int v2), (3, .int v3), (4, .int v4), (7, .int v7)]) rfl ⟨rfl, rfl, rfl, rfl, rfl, rfl, trivial⟩ (x_Y_readSelector_126 e c)
        · exact wp_lv (lv' := [(0, .ref v0), (1, .ref v1), (2, .int v2), (3, .int v3), (4, .int v4), (7, .int v7)]) rfl ⟨rfl, rfl, rfl, rfl, rfl, rfl, trivial⟩ (x_Y_readSelector_130 e c)
      · exact wp_lv (lv' := [(0, .ref v0), (1, .ref v1), (2, .int v2), (3, .int v3), (4, .int v4), (7, .int v7)]) rfl ⟨rfl, rfl, rfl, rfl, rfl, rfl, trivial⟩ (x_Y_readSelector_126 e c)
    · exact wp_lv (lv' := [(0, .ref v0), (1, .ref v1), (2, .int v2), (3, .int v3), (4, .int v4), (7, .int v7)]) rfl ⟨rfl, rfl, rfl, rfl, rfl, rfl, trivial⟩ (x_Y_readSelector_130 e c)
  · exact wp_lv (lv' := [(0, .ref v0), (1, .ref v1), (2, .int v2), (3, .int v3), (4, .int v4), (7, .int v7)]) rfl ⟨rfl, rfl, rfl, rfl, rfl, rfl, trivial⟩ (x_Y_readSelector_130 e c)
noncomputable def b_Y_readSelector_17 (v0 : Nat) (v1 : Nat) (v2 : Int32) (v3 : Int32) (v4 : Int32) (v5 : Int32) (g : g_S) : Option ((Int32 × g_S) ⊕ ((Int32 × g_S) ⊕ (g_S))) :=
  if v5 = 0 then
    some (.inr (.inr g))
  else
    (rQ g 112 v0 90).bind fun z1 =>
    (aI g 0 z1 v3).bind fun z2 =>
    c2 (vc g 112 v0 (M_Y_readPart v0 v1 v2 ((3 * v3) + z2) v3 g)) fun z3 g4 =>
    if z3 < 0 then
      (rQ g4 112 v0 90).bind fun z5 =>
      (aI g4 0 z5 v3).bind fun z6 =>
      (sI g4 z5 v3 (z6 + 1)).bind fun g7 =>
      (rI g7 112 v0 100).bind fun z8 =>
      (L_Y_readSelector_65 v0 v1 v2 v3 v4 z8 g7).bind <| fun z11 =>
      k_Y_readSelector_87 v0 v1 v2 v3 v4 z11 g7
    else
      some (.inr (.inl (z3, g4)))
set_option maxRecDepth 20000 in
theorem y_Y_readSelector_17 {L : Nat} {xs : Nat → Int32} {Q : Option Value → ab_H → Prop} {v0 : Nat} {v1 : Nat} {v2 : Int32} {v3 : Int32} {v4 : Int32} {v5 : Int32} {g : g_S} {out : (Int32 × g_S) ⊕ ((Int32 × g_S) ⊕ (g_S))} (e : b_Y_readSelector_17 v0 v1 v2 v3 v4 v5 g = some out) (c : cL_Y_readSelector_17 L xs Q v0 v1 v2 v3 v4 out) : wp (ab_ext L xs) J_Y_readSelector 17 [(0, .ref v0), (1, .ref v1), (2, .int v2), (3, .int v3), (4, .int v4), (5, .int v5)] [] (hp g) Q := by
  unfold b_Y_readSelector_17 at e
  refine wp_p (j := J_Y_readSelector) 1 (pc' := 19) (lv' := [(0, .ref v0), (1, .ref v1), (2, .int v2), (3, .int v3), (4, .int v4), (5, .int v5)]) (st' := [.int v5]) rfl ?_
  refine z_eq e rfl (fun e => ?_) (fun e => ?_)
  · have e := Option.some.inj e; subst e; exact wp_lv (lv' := []) rfl trivial c
  · refine wp_p (j := J_Y_readSelector) 7 (pc' := 29) (lv' := [(0, .ref v0), (1, .ref v1), (2, .int v2), (3, .int v3), (4, .int v4), (5, .int v5)]) (st' := [.ref v0, .int (3 * v3), .int v2, .ref v1, .ref v0]) rfl ?_
    refine x_gQ e rfl rfl fd_12_90 rfl (fun z1 e => ?_)
    refine wp_p (j := J_Y_readSelector) 1 (pc' := 33) (lv' := [(0, .ref v0), (1, .ref v1), (2, .int v2), (3, .int v3), (4, .int v4), (5, .int v5)]) (st' := [.int v3, .ref z1, .int (3 * v3), .int v2, .ref v1, .ref v0]) rfl ?_
    refine x_aI e rfl rfl (fun z2 e => ?_)
    refine wp_p (j := J_Y_readSelector) 2 (pc' := 36) (lv' := [(0, .ref v0), (1, .ref v1), (2, .int v2), (3, .int v3), (4, .int v4), (5, .int v5)]) (st' := [.int v3, .int ((3 * v3) + z2), .int v2, .ref v1, .ref v0]) rfl ?_
    refine x_cv2 (As := [.ref v1, .int v2, .int ((3 * v3) + z2), .int v3]) (rest := []) Value.int e rfl rfl rfl rfl rfl rfl (fun h => d_Y_readPart h ⟨rfl, rfl⟩) (fun z3 g4 e => ?_)
    refine wp_p (j := J_Y_readSelector) 2 (pc' := 43) (lv' := [(6, .int z3), (0, .ref v0), (1, .ref v1), (2, .int v2), (3, .int v3), (4, .int v4), (5, .int v5)]) (st' := [.int z3]) rfl ?_
    refine z_lt e rfl (fun e => ?_) (fun e => ?_)
    · refine wp_p (j := J_Y_readSelector) 1 (pc' := 50) (lv' := [(6, .int z3), (0, .ref v0), (1, .ref v1), (2, .int v2), (3, .int v3), (4, .int v4), (5, .int v5)]) (st' := [.ref v0]) rfl ?_
      refine x_gQ e rfl rfl fd_12_90 rfl (fun z5 e => ?_)
      refine wp_p (j := J_Y_readSelector) 2 (pc' := 55) (lv' := [(6, .int z3), (0, .ref v0), (1, .ref v1), (2, .int v2), (3, .int v3), (4, .int v4), (5, .int v5)]) (st' := [.int v3, .ref z5, .int v3, .ref z5]) rfl ?_
      refine x_aI e rfl rfl (fun z6 e => ?_)
      refine wp_p (j := J_Y_readSelector) 2 (pc' := 58) (lv' := [(6, .int z3), (0, .ref v0), (1, .ref v1), (2, .int v2), (3, .int v3), (4, .int v4), (5, .int v5)]) (st' := [.int (z6 + 1), .int v3, .ref z5]) rfl ?_
      refine x_sI e rfl rfl (fun g7 e => ?_)
      refine wp_p (j := J_Y_readSelector) 1 (pc' := 60) (lv' := [(6, .int z3), (0, .ref v0), (1, .ref v1), (2, .int v2), (3, .int v3), (4, .int v4), (5, .int v5)]) (st' := [.ref v0]) rfl ?_
      refine x_gI e rfl rfl fd_12_100 rfl (fun z8 e => ?_)
      refine wp_p (j := J_Y_readSelector) 1 (pc' := 65) (lv' := [(7, .int z8), (6, .int z3), (0, .ref v0), (1, .ref v1), (2, .int v2), (3, .int v3), (4, .int v4), (5, .int v5)]) (st' := []) rfl ?_
      obtain ⟨z11, h10, e⟩ := bd e
      refine wp_lv (lv' := [(0, .ref v0), (1, .ref v1), (2, .int v2), (3, .int v3), (4, .int v4), (7, .int z8)]) rfl ⟨rfl, rfl, rfl, rfl, rfl, rfl, trivial⟩ ?_
      refine l_Y_readSelector_65 h10 ?_
      show wp (ab_ext L xs) J_Y_readSelector 87 [(0, .ref v0), (1, .ref v1), (2, .int v2), (3, .int v3), (4, .int v4), (7, .int z11)] [] (hp g7) Q
      exact wp_lv (lv' := [(0, .ref v0), (1, .ref v1), (2, .int v2), (3, .int v3), (4, .int v4), (7, .int z11)]) rfl ⟨rfl, rfl, rfl, rfl, rfl, rfl, trivial⟩ (x_Y_readSelector_87 e c)
    · have e := Option.some.inj e; subst e; exact wp_lv (lv' := [(6, .int z3)]) rfl ⟨rfl, trivial⟩ c
noncomputable def L_Y_readSelector_17 (v0 : Nat) (v1 : Nat) (v2 : Int32) (v3 : Int32) (v4 : Int32) (v5 : Int32) (g : g_S) : Option ((Int32 × g_S) ⊕ (g_S)) := it (fun s : Int32 × g_S => b_Y_readSelector_17 v0 v1 v2 v3 v4 s.1 s.2) (v5, g)
theorem l_Y_readSelector_17 {L : Nat} {xs : Nat → Int32} {Q : Option Value → ab_H → Prop} {v0 : Nat} {v1 : Nat} {v2 : Int32} {v3 : Int32} {v4 : Int32} {v5 : Int32} {g : g_S} {r : (Int32 × g_S) ⊕ (g_S)} (e : L_Y_readSelector_17 v0 v1 v2 v3 v4 v5 g = some r) (c : cL_Y_readSelector_17 L xs Q v0 v1 v2 v3 v4 (.inr r)) : wp (ab_ext L xs) J_Y_readSelector 17 [(0, .ref v0), (1, .ref v1), (2, .int v2), (3, .int v3), (4, .int v4), (5, .int v5)] [] (hp g) Q :=
  it_wp (P := fun s : Int32 × g_S => wp (ab_ext L xs) J_Y_readSelector 17 [(0, .ref v0), (1, .ref v1), (2, .int v2), (3, .int v3), (4, .int v4), (5, .int s.1)] [] (hp s.2) Q) (E := fun r => cL_Y_readSelector_17 L xs Q v0 v1 v2 v3 v4 (.inr r)) (fun s out e c => y_Y_readSelector_17 e (by cases out <;> exact c)) e c
theorem L_Y_readSelector_17_eq (v0 : Nat) (v1 : Nat) (v2 : Int32) (v3 : Int32) (v4 : Int32) (v5 : Int32) (g : g_S) : L_Y_readSelector_17 v0 v1 v2 v3 v4 v5 g = itc (b_Y_readSelector_17 v0 v1 v2 v3 v4 v5 g) (fun s => L_Y_readSelector_17 v0 v1 v2 v3 v4 s.1 s.2) := it_eq2 (fun s : Int32 × g_S => b_Y_readSelector_17 v0 v1 v2 v3 v4 s.1 s.2) (v5, g)
noncomputable def M_Y_readSelector (v0 : Nat) (v1 : Nat) (v2 : Int32) (v3 : Int32) (v4 : Int32) (g : g_S) : Option (Int32 × g_S) :=
  (rQ g 112 v0 90).bind fun z1 =>
  (sI g z1 v3 0).bind fun g2 =>
  (rQ g2 112 v0 97).bind fun z3 =>
  (sI g2 z3 v3 0).bind fun g4 =>
  (L_Y_readSelector_17 v0 v1 v2 v3 v4 1 g4).bind <|
    us (u2 fun z7 g8 =>
    some (z7, g8))
    (fun g9 =>
    some ((-1), g9))
set_option maxRecDepth 20000 in
theorem d_Y_readSelector {L : Nat} {xs : Nat → Int32} {Q : Option Value → ab_H → Prop} {v0 : Nat} {v1 : Nat} {v2 : Int32} {v3 : Int32} {v4 : Int32} {g : g_S} {out : Int32 × g_S} (e : M_Y_readSelector v0 v1 v2 v3 v4 g = some out) (c : Q (some (.int out.1)) (hp out.2)) : mw (ab_ext L xs) J_Y_readSelector [.ref v0, .ref v1, .int v2, .int v3, .int v4] (hp g) Q := by
  unfold M_Y_readSelector at e
  refine wp_p (j := J_Y_readSelector) 1 (pc' := 1) (lv' := [(0, .ref v0), (1, .ref v1), (2, .int v2), (3, .int v3), (4, .int v4)]) (st' := [.ref v0]) rfl ?_
  refine x_gQ e rfl rfl fd_12_90 rfl (fun z1 e => ?_)
  refine wp_p (j := J_Y_readSelector) 2 (pc' := 6) (lv' := [(0, .ref v0), (1, .ref v1), (2, .int v2), (3, .int v3), (4, .int v4)]) (st' := [.int 0, .int v3, .ref z1]) rfl ?_
  refine x_sI e rfl rfl (fun g2 e => ?_)
  refine wp_p (j := J_Y_readSelector) 1 (pc' := 8) (lv' := [(0, .ref v0), (1, .ref v1), (2, .int v2), (3, .int v3), (4, .int v4)]) (st' := [.ref v0]) rfl ?_
  refine x_gQ e rfl rfl fd_12_97 rfl (fun z3 e => ?_)
  refine wp_p (j := J_Y_readSelector) 2 (pc' := 13) (lv' := [(0, .ref v0), (1, .ref v1), (2, .int v2), (3, .int v3), (4, .int v4)]) (st' := [.int 0, .int v3, .ref z3]) rfl ?_
  refine x_sI e rfl rfl (fun g4 e => ?_)
  refine wp_p (j := J_Y_readSelector) 2 (pc' := 17) (lv' := [(5, .int 1), (0, .ref v0), (1, .ref v1), (2, .int v2), (3, .int v3), (4, .int v4)]) (st' := []) rfl ?_
  obtain ⟨s5, h6, e⟩ := bd e
  refine wp_lv (lv' := [(0, .ref v0), (1, .ref v1), (2, .int v2), (3, .int v3), (4, .int v4), (5, .int 1)]) rfl ⟨rfl, rfl, rfl, rfl, rfl, rfl, trivial⟩ ?_
  refine l_Y_readSelector_17 h6 ?_
  rcases s5 with ⟨z7, g8⟩ | g9
  · replace e := (u2_e (us_l e))
    show wp (ab_ext L xs) J_Y_readSelector 46 [(6, .int z7)] [] (hp g8) Q
    refine wp_p (j := J_Y_readSelector) 1 (pc' := 48) (lv' := [(6, .int z7)]) (st' := [.int z7]) rfl ?_
    have e := Option.some.inj e; subst e; exact wp_iret (ty := .int) rfl rfl rfl c
  · replace e := (us_r e)
    show wp (ab_ext L xs) J_Y_readSelector 147 [] [] (hp g9) Q
    refine wp_p (j := J_Y_readSelector) 1 (pc' := 148) (lv' := []) (st' := [.int (-1)]) rfl ?_
    have e := Option.some.inj e; subst e; exact wp_iret (ty := .int) rfl rfl rfl c
def cL_Y_hasClass_18 (L : Nat) (xs : Nat → Int32) (Q : Option Value → ab_H → Prop) (v0 : Nat) (v1 : Int32) (v2 : Int32) (v4 : Int32) (v5 : Int32) (g : g_S) (out : (Int32) ⊕ (Int32)) : Prop := match out with
  | .inl s => wp (ab_ext L xs) J_Y_hasClass 18 [(0, .ref v0), (1, .int v1), (2, .int v2), (3, .int s), (4, .int v4), (5, .int v5)] [] (hp g) Q
  | .inr s => wp (ab_ext L xs) J_Y_hasClass 51 [(0, .ref v0), (1, .int v1), (2, .int v2), (3, .int s), (4, .int v4), (5, .int v5)] [] (hp g) Q
noncomputable def b_Y_hasClass_18 (v0 : Nat) (v1 : Int32) (v2 : Int32) (v4 : Int32) (v5 : Int32) (v3 : Int32) (g : g_S) : Option ((Int32) ⊕ (Int32)) :=
  (rQ g 112 v0 60).bind fun z1 =>
  (aI g 0 z1 v1).bind fun z2 =>
  if v3 < z2 then
    (rQ g 112 v0 59).bind fun z3 =>
    (aI g 1 z3 ((60 * v1) + v3)).bind fun z4 =>
    (M_Y_isBlank z4 g).bind fun z5 =>
    if z5 = 0 then
      some (.inl (v3 + 1))
    else
      some (.inr v3)
  else
    some (.inr v3)
set_option maxRecDepth 20000 in
theorem y_Y_hasClass_18 {L : Nat} {xs : Nat → Int32} {Q : Option Value → ab_H → Prop} {v0 : Nat} {v1 : Int32} {v2 : Int32} {v4 : Int32} {v5 : Int32} {v3 : Int32} {g : g_S} {out : (Int32) ⊕ (Int32)} (e : b_Y_hasClass_18 v0 v1 v2 v4 v5 v3 g = some out) (c : cL_Y_hasClass_18 L xs Q v0 v1 v2 v4 v5 g out) : wp (ab_ext L xs) J_Y_hasClass 18 [(0, .ref v0), (1, .int v1), (2, .int v2), (3, .int v3), (4, .int v4), (5, .int v5)] [] (hp g) Q := by
  unfold b_Y_hasClass_18 at e
  refine wp_p (j := J_Y_hasClass) 2 (pc' := 20) (lv' := [(0, .ref v0), (1, .int v1), (2, .int v2), (3, .int v3), (4, .int v4), (5, .int v5)]) (st' := [.ref v0, .int v3]) rfl ?_
  refine x_gQ e rfl rfl fd_12_60 rfl (fun z1 e => ?_)
  refine wp_p (j := J_Y_hasClass) 1 (pc' := 24) (lv' := [(0, .ref v0), (1, .int v1), (2, .int v2), (3, .int v3), (4, .int v4), (5, .int v5)]) (st' := [.int v1, .ref z1, .int v3]) rfl ?_
  refine x_aI e rfl rfl (fun z2 e => ?_)
  refine x_ge e rfl (fun e => ?_) (fun e => ?_)
  · refine wp_p (j := J_Y_hasClass) 1 (pc' := 29) (lv' := [(0, .ref v0), (1, .int v1), (2, .int v2), (3, .int v3), (4, .int v4), (5, .int v5)]) (st' := [.ref v0]) rfl ?_
    refine x_gQ e rfl rfl fd_12_59 rfl (fun z3 e => ?_)
    refine wp_p (j := J_Y_hasClass) 5 (pc' := 38) (lv' := [(0, .ref v0), (1, .int v1), (2, .int v2), (3, .int v3), (4, .int v4), (5, .int v5)]) (st' := [.int ((60 * v1) + v3), .ref z3]) rfl ?_
    refine x_aB e rfl (.inl rfl) rfl (fun z4 e => ?_)
    refine x_cs1 (As := [.int z4]) (rest := []) Value.int e rfl rfl rfl rfl rfl (fun h => d_Y_isBlank h ⟨rfl, rfl⟩) (fun z5 e => ?_)
    refine z_ne e rfl (fun e => ?_) (fun e => ?_)
    · refine wp_p (j := J_Y_hasClass) 2 (pc' := 18) (lv' := [(3, .int (v3 + 1)), (0, .ref v0), (1, .int v1), (2, .int v2), (4, .int v4), (5, .int v5)]) (st' := []) rfl ?_
      have e := Option.some.inj e; subst e; exact wp_lv (lv' := [(0, .ref v0), (1, .int v1), (2, .int v2), (3, .int (v3 + 1)), (4, .int v4), (5, .int v5)]) rfl ⟨rfl, rfl, rfl, rfl, rfl, rfl, trivial⟩ c
    · have e := Option.some.inj e; subst e; exact wp_lv (lv' := [(0, .ref v0), (1, .int v1), (2, .int v2), (3, .int v3), (4, .int v4), (5, .int v5)]) rfl ⟨rfl, rfl, rfl, rfl, rfl, rfl, trivial⟩ c
  · have e := Option.some.inj e; subst e; exact wp_lv (lv' := [(0, .ref v0), (1, .int v1), (2, .int v2), (3, .int v3), (4, .int v4), (5, .int v5)]) rfl ⟨rfl, rfl, rfl, rfl, rfl, rfl, trivial⟩ c
noncomputable def L_Y_hasClass_18 (v0 : Nat) (v1 : Int32) (v2 : Int32) (v4 : Int32) (v5 : Int32) (v3 : Int32) (g : g_S) : Option (Int32) := it (fun s : Int32 => b_Y_hasClass_18 v0 v1 v2 v4 v5 s g) (v3)
theorem l_Y_hasClass_18 {L : Nat} {xs : Nat → Int32} {Q : Option Value → ab_H → Prop} {v0 : Nat} {v1 : Int32} {v2 : Int32} {v4 : Int32} {v5 : Int32} {v3 : Int32} {g : g_S} {r : Int32} (e : L_Y_hasClass_18 v0 v1 v2 v4 v5 v3 g = some r) (c : cL_Y_hasClass_18 L xs Q v0 v1 v2 v4 v5 g (.inr r)) : wp (ab_ext L xs) J_Y_hasClass 18 [(0, .ref v0), (1, .int v1), (2, .int v2), (3, .int v3), (4, .int v4), (5, .int v5)] [] (hp g) Q :=
  it_wp (P := fun s : Int32 => wp (ab_ext L xs) J_Y_hasClass 18 [(0, .ref v0), (1, .int v1), (2, .int v2), (3, .int s), (4, .int v4), (5, .int v5)] [] (hp g) Q) (E := fun r => cL_Y_hasClass_18 L xs Q v0 v1 v2 v4 v5 g (.inr r)) (fun s out e c => y_Y_hasClass_18 e (by cases out <;> exact c)) e c
theorem L_Y_hasClass_18_eq (v0 : Nat) (v1 : Int32) (v2 : Int32) (v4 : Int32) (v5 : Int32) (v3 : Int32) (g : g_S) : L_Y_hasClass_18 v0 v1 v2 v4 v5 v3 g = itc (b_Y_hasClass_18 v0 v1 v2 v4 v5 v3 g) (fun s => L_Y_hasClass_18 v0 v1 v2 v4 v5 s g) := it_eq2 (fun s : Int32 => b_Y_hasClass_18 v0 v1 v2 v4 v5 s g) (v3)
def cL_Y_hasClass_5 (L : Nat) (xs : Nat → Int32) (Q : Option Value → ab_H → Prop) (v0 : Nat) (v1 : Int32) (v2 : Int32) (g : g_S) (out : (Int32 × Int32) ⊕ (Int32)) : Prop := match out with
  | .inl s => wp (ab_ext L xs) J_Y_hasClass 5 [(0, .ref v0), (1, .int v1), (2, .int v2), (3, .int s.1), (4, .int s.2)] [] (hp g) Q
  | .inr s => wp (ab_ext L xs) J_Y_hasClass 119 [(4, .int s)] [] (hp g) Q
noncomputable def k_Y_hasClass_106 (v0 : Nat) (v1 : Int32) (v2 : Int32) (v3 : Int32) (g : g_S) : Option ((Int32 × Int32) ⊕ (Int32)) :=
  some (.inl (v3 + 1, 1))
set_option maxRecDepth 20000 in
theorem x_Y_hasClass_106 {L : Nat} {xs : Nat → Int32} {Q : Option Value → ab_H → Prop} {v0 : Nat} {v1 : Int32} {v2 : Int32} {v3 : Int32} {g : g_S} {out : (Int32 × Int32) ⊕ (Int32)} (e : k_Y_hasClass_106 v0 v1 v2 v3 g = some out) (c : cL_Y_hasClass_5 L xs Q v0 v1 v2 g out) : wp (ab_ext L xs) J_Y_hasClass 106 [(0, .ref v0), (1, .int v1), (2, .int v2), (3, .int v3)] [] (hp g) Q := by
  unfold k_Y_hasClass_106 at e
  refine wp_p (j := J_Y_hasClass) 5 (pc' := 5) (lv' := [(3, .int (v3 + 1)), (4, .int 1), (0, .ref v0), (1, .int v1), (2, .int v2)]) (st' := []) rfl ?_
  have e := Option.some.inj e; subst e; exact wp_lv (lv' := [(0, .ref v0), (1, .int v1), (2, .int v2), (3, .int (v3 + 1)), (4, .int 1)]) rfl ⟨rfl, rfl, rfl, rfl, rfl, trivial⟩ c
noncomputable def k_Y_hasClass_51 (v0 : Nat) (v1 : Int32) (v2 : Int32) (v3 : Int32) (v4 : Int32) (v5 : Int32) (g : g_S) : Option ((Int32 × Int32) ⊕ (Int32)) :=
  if v4 = 0 then
    (rQ g 112 v0 95).bind fun z1 =>
    (aI g 0 z1 v2).bind fun z2 =>
    if (v3 - v5) = z2 then
      if v5 < v3 then
        (rQ g 112 v0 59).bind fun z3 =>
        (rQ g 112 v0 96).bind fun z4 =>
        (rQ g 112 v0 95).bind fun z5 =>
        (aI g 0 z5 v2).bind fun z6 =>
        (M_Y_same z3 ((60 * v1) + v5) z4 (8 * v2) z6 g).bind fun z7 =>
        if z7 = 0 then
          some (.inl (v3 + 1, 0))
        else
          k_Y_hasClass_106 v0 v1 v2 v3 g
      else
        some (.inl (v3 + 1, 0))
    else
      some (.inl (v3 + 1, 0))
  else
    k_Y_hasClass_106 v0 v1 v2 v3 g
set_option maxRecDepth 20000 in
theorem x_Y_hasClass_51 {L : Nat} {xs : Nat → Int32} {Q : Option Value → ab_H → Prop} {v0 : Nat} {v1 : Int32} {v2 : Int32} {v3 : Int32} {v4 : Int32} {v5 : Int32} {g : g_S} {out : (Int32 × Int32) ⊕ (Int32)} (e : k_Y_hasClass_51 v0 v1 v2 v3 v4 v5 g = some out) (c : cL_Y_hasClass_5 L xs Q v0 v1 v2 g out) : wp (ab_ext L xs) J_Y_hasClass 51 [(0, .ref v0), (1, .int v1), (2, .int v2), (3, .int v3), (4, .int v4), (5, .int v5)] [] (hp g) Q := by
  unfold k_Y_hasClass_51 at e
  refine wp_p (j := J_Y_hasClass) 1 (pc' := 53) (lv' := [(0, .ref v0), (1, .int v1), (2, .int v2), (3, .int v3), (4, .int v4), (5, .int v5)]) (st' := [.int v4]) rfl ?_
  refine z_ne e rfl (fun e => ?_) (fun e => ?_)
  · refine wp_p (j := J_Y_hasClass) 4 (pc' := 61) (lv' := [(0, .ref v0), (1, .int v1), (2, .int v2), (3, .int v3), (4, .int v4), (5, .int v5)]) (st' := [.ref v0, .int (v3 - v5)]) rfl ?_
    refine x_gQ e rfl rfl fd_12_95 rfl (fun z1 e => ?_)
    refine wp_p (j := J_Y_hasClass) 1 (pc' := 65) (lv' := [(0, .ref v0), (1, .int v1), (2, .int v2), (3, .int v3), (4, .int v4), (5, .int v5)]) (st' := [.int v2, .ref z1, .int (v3 - v5)]) rfl ?_
    refine x_aI e rfl rfl (fun z2 e => ?_)
    refine x_ne e rfl (fun e => ?_) (fun e => ?_)
    · refine wp_p (j := J_Y_hasClass) 2 (pc' := 72) (lv' := [(0, .ref v0), (1, .int v1), (2, .int v2), (3, .int v3), (4, .int v4), (5, .int v5)]) (st' := [.int v5, .int v3]) rfl ?_
      refine x_le e rfl (fun e => ?_) (fun e => ?_)
      · refine wp_p (j := J_Y_hasClass) 1 (pc' := 76) (lv' := [(0, .ref v0), (1, .int v1), (2, .int v2), (3, .int v3), (4, .int v4), (5, .int v5)]) (st' := [.ref v0]) rfl ?_
        refine x_gQ e rfl rfl fd_12_59 rfl (fun z3 e => ?_)
        refine wp_p (j := J_Y_hasClass) 6 (pc' := 87) (lv' := [(0, .ref v0), (1, .int v1), (2, .int v2), (3, .int v3), (4, .int v4), (5, .int v5)]) (st' := [.ref v0, .int ((60 * v1) + v5), .ref z3]) rfl ?_
        refine x_gQ e rfl rfl fd_12_96 rfl (fun z4 e => ?_)
        refine wp_p (j := J_Y_hasClass) 4 (pc' := 95) (lv' := [(0, .ref v0), (1, .int v1), (2, .int v2), (3, .int v3), (4, .int v4), (5, .int v5)]) (st' := [.ref v0, .int (8 * v2), .ref z4, .int ((60 * v1) + v5), .ref z3]) rfl ?_
        refine x_gQ e rfl rfl fd_12_95 rfl (fun z5 e => ?_)
        refine wp_p (j := J_Y_hasClass) 1 (pc' := 99) (lv' := [(0, .ref v0), (1, .int v1), (2, .int v2), (3, .int v3), (4, .int v4), (5, .int v5)]) (st' := [.int v2, .ref z5, .int (8 * v2), .ref z4, .int ((60 * v1) + v5), .ref z3]) rfl ?_
        refine x_aI e rfl rfl (fun z6 e => ?_)
        refine x_cs1 (As := [.ref z3, .int ((60 * v1) + v5), .ref z4, .int (8 * v2), .int z6]) (rest := []) Value.int e rfl rfl rfl rfl rfl (fun h => d_Y_same h ⟨rfl, rfl⟩) (fun z7 e => ?_)
        refine z_eq e rfl (fun e => ?_) (fun e => ?_)
        · refine wp_p (j := J_Y_hasClass) 4 (pc' := 5) (lv' := [(3, .int (v3 + 1)), (4, .int 0), (0, .ref v0), (1, .int v1), (2, .int v2), (5, .int v5)]) (st' := []) rfl ?_
          have e := Option.some.inj e; subst e; exact wp_lv (lv' := [(0, .ref v0), (1, .int v1), (2, .int v2), (3, .int (v3 + 1)), (4, .int 0)]) rfl ⟨rfl, rfl, rfl, rfl, rfl, trivial⟩ c
        · exact wp_lv (lv' := [(0, .ref v0), (1, .int v1), (2, .int v2), (3, .int v3)]) rfl ⟨rfl, rfl, rfl, rfl, trivial⟩ (x_Y_hasClass_106 e c)
      · refine wp_p (j := J_Y_hasClass) 4 (pc' := 5) (lv' := [(3, .int (v3 + 1)), (4, .int 0), (0, .ref v0), (1, .int v1), (2, .int v2), (5, .int v5)]) (st' := []) rfl ?_
        have e := Option.some.inj e; subst e; exact wp_lv (lv' := [(0, .ref v0), (1, .int v1), (2, .int v2), (3, .int (v3 + 1)), (4, .int 0)]) rfl ⟨rfl, rfl, rfl, rfl, rfl, trivial⟩ c
    · refine wp_p (j := J_Y_hasClass) 4 (pc' := 5) (lv' := [(3, .int (v3 + 1)), (4, .int 0), (0, .ref v0), (1, .int v1), (2, .int v2), (5, .int v5)]) (st' := []) rfl ?_
      have e := Option.some.inj e; subst e; exact wp_lv (lv' := [(0, .ref v0), (1, .int v1), (2, .int v2), (3, .int (v3 + 1)), (4, .int 0)]) rfl ⟨rfl, rfl, rfl, rfl, rfl, trivial⟩ c
  · exact wp_lv (lv' := [(0, .ref v0), (1, .int v1), (2, .int v2), (3, .int v3)]) rfl ⟨rfl, rfl, rfl, rfl, trivial⟩ (x_Y_hasClass_106 e c)
noncomputable def b_Y_hasClass_5 (v0 : Nat) (v1 : Int32) (v2 : Int32) (v3 : Int32) (v4 : Int32) (g : g_S) : Option ((Int32 × Int32) ⊕ (Int32)) :=
  (rQ g 112 v0 60).bind fun z1 =>
  (aI g 0 z1 v1).bind fun z2 =>
  if v3 < z2 then
    (L_Y_hasClass_18 v0 v1 v2 v4 v3 v3 g).bind <| fun z5 =>
    k_Y_hasClass_51 v0 v1 v2 z5 v4 v3 g
  else
    some (.inr v4)
set_option maxRecDepth 20000 in
theorem y_Y_hasClass_5 {L : Nat} {xs : Nat → Int32} {Q : Option Value → ab_H → Prop} {v0 : Nat} {v1 : Int32} {v2 : Int32} {v3 : Int32} {v4 : Int32} {g : g_S} {out : (Int32 × Int32) ⊕ (Int32)} (e : b_Y_hasClass_5 v0 v1 v2 v3 v4 g = some out) (c : cL_Y_hasClass_5 L xs Q v0 v1 v2 g out) : wp (ab_ext L xs) J_Y_hasClass 5 [(0, .ref v0), (1, .int v1), (2, .int v2), (3, .int v3), (4, .int v4)] [] (hp g) Q := by
  unfold b_Y_hasClass_5 at e
  refine wp_p (j := J_Y_hasClass) 2 (pc' := 7) (lv' := [(0, .ref v0), (1, .int v1), (2, .int v2), (3, .int v3), (4, .int v4)]) (st' := [.ref v0, .int v3]) rfl ?_
  refine x_gQ e rfl rfl fd_12_60 rfl (fun z1 e => ?_)
  refine wp_p (j := J_Y_hasClass) 1 (pc' := 11) (lv' := [(0, .ref v0), (1, .int v1), (2, .int v2), (3, .int v3), (4, .int v4)]) (st' := [.int v1, .ref z1, .int v3]) rfl ?_
  refine x_aI e rfl rfl (fun z2 e => ?_)
  refine x_ge e rfl (fun e => ?_) (fun e => ?_)
  · refine wp_p (j := J_Y_hasClass) 2 (pc' := 18) (lv' := [(5, .int v3), (0, .ref v0), (1, .int v1), (2, .int v2), (3, .int v3), (4, .int v4)]) (st' := []) rfl ?_
    obtain ⟨z5, h4, e⟩ := bd e
    refine wp_lv (lv' := [(0, .ref v0), (1, .int v1), (2, .int v2), (3, .int v3), (4, .int v4), (5, .int v3)]) rfl ⟨rfl, rfl, rfl, rfl, rfl, rfl, trivial⟩ ?_
    refine l_Y_hasClass_18 h4 ?_
    show wp (ab_ext L xs) J_Y_hasClass 51 [(0, .ref v0), (1, .int v1), (2, .int v2), (3, .int z5), (4, .int v4), (5, .int v3)] [] (hp g) Q
    exact wp_lv (lv' := [(0, .ref v0), (1, .int v1), (2, .int v2), (3, .int z5), (4, .int v4), (5, .int v3)]) rfl ⟨rfl, rfl, rfl, rfl, rfl, rfl, trivial⟩ (x_Y_hasClass_51 e c)
  · have e := Option.some.inj e; subst e; exact wp_lv (lv' := [(4, .int v4)]) rfl ⟨rfl, trivial⟩ c
noncomputable def L_Y_hasClass_5 (v0 : Nat) (v1 : Int32) (v2 : Int32) (v3 : Int32) (v4 : Int32) (g : g_S) : Option (Int32) := it (fun s : Int32 × Int32 => b_Y_hasClass_5 v0 v1 v2 s.1 s.2 g) (v3, v4)
theorem l_Y_hasClass_5 {L : Nat} {xs : Nat → Int32} {Q : Option Value → ab_H → Prop} {v0 : Nat} {v1 : Int32} {v2 : Int32} {v3 : Int32} {v4 : Int32} {g : g_S} {r : Int32} (e : L_Y_hasClass_5 v0 v1 v2 v3 v4 g = some r) (c : cL_Y_hasClass_5 L xs Q v0 v1 v2 g (.inr r)) : wp (ab_ext L xs) J_Y_hasClass 5 [(0, .ref v0), (1, .int v1), (2, .int v2), (3, .int v3), (4, .int v4)] [] (hp g) Q :=
  it_wp (P := fun s : Int32 × Int32 => wp (ab_ext L xs) J_Y_hasClass 5 [(0, .ref v0), (1, .int v1), (2, .int v2), (3, .int s.1), (4, .int s.2)] [] (hp g) Q) (E := fun r => cL_Y_hasClass_5 L xs Q v0 v1 v2 g (.inr r)) (fun s out e c => y_Y_hasClass_5 e (by cases out <;> exact c)) e c
theorem L_Y_hasClass_5_eq (v0 : Nat) (v1 : Int32) (v2 : Int32) (v3 : Int32) (v4 : Int32) (g : g_S) : L_Y_hasClass_5 v0 v1 v2 v3 v4 g = itc (b_Y_hasClass_5 v0 v1 v2 v3 v4 g) (fun s => L_Y_hasClass_5 v0 v1 v2 s.1 s.2 g) := it_eq2 (fun s : Int32 × Int32 => b_Y_hasClass_5 v0 v1 v2 s.1 s.2 g) (v3, v4)
noncomputable def M_Y_hasClass (v0 : Nat) (v1 : Int32) (v2 : Int32) (g : g_S) : Option Int32 :=
  (L_Y_hasClass_5 v0 v1 v2 0 0 g).bind <| fun z3 =>
  (tz z3).bind fun z4 =>
  some z4
set_option maxRecDepth 20000 in
theorem d_Y_hasClass {L : Nat} {xs : Nat → Int32} {Q : Option Value → ab_H → Prop} {v0 : Nat} {v1 : Int32} {v2 : Int32} {g : g_S} {out : Int32} (e : M_Y_hasClass v0 v1 v2 g = some out) (c : Q (some (.int out)) (hp g)) : mw (ab_ext L xs) J_Y_hasClass [.ref v0, .int v1, .int v2] (hp g) Q := by
  unfold M_Y_hasClass at e
  refine wp_p (j := J_Y_hasClass) 4 (pc' := 5) (lv' := [(4, .int 0), (3, .int 0), (0, .ref v0), (1, .int v1), (2, .int v2)]) (st' := []) rfl ?_
  obtain ⟨z3, h2, e⟩ := bd e
  refine wp_lv (lv' := [(0, .ref v0), (1, .int v1), (2, .int v2), (3, .int 0), (4, .int 0)]) rfl ⟨rfl, rfl, rfl, rfl, rfl, trivial⟩ ?_
  refine l_Y_hasClass_5 h2 ?_
  show wp (ab_ext L xs) J_Y_hasClass 119 [(4, .int z3)] [] (hp g) Q
  refine wp_p (j := J_Y_hasClass) 1 (pc' := 121) (lv' := [(4, .int z3)]) (st' := [.int z3]) rfl ?_
  obtain ⟨h5, e⟩ := tz_ok e
  have e := Option.some.inj e; subst e; exact wp_iret (ty := .boolean) rfl rfl h5 c
def cL_Y_matchesPart_51 (L : Nat) (xs : Nat → Int32) (Q : Option Value → ab_H → Prop) (v0 : Nat) (v1 : Int32) (v2 : Int32) (g : g_S) (out : (Int32) ⊕ ((Unit) ⊕ (Unit) ⊕ (Unit) ⊕ (Unit))) : Prop := match out with
  | .inl s => wp (ab_ext L xs) J_Y_matchesPart 51 [(0, .ref v0), (1, .int v1), (2, .int v2), (4, .int s)] [] (hp g) Q
  | .inr (.inl s) => wp (ab_ext L xs) J_Y_matchesPart 100 [] [] (hp g) Q
  | .inr (.inr (.inl s)) => wp (ab_ext L xs) J_Y_matchesPart 162 [] [] (hp g) Q
  | .inr (.inr (.inr (.inl s))) => wp (ab_ext L xs) J_Y_matchesPart 175 [] [] (hp g) Q
  | .inr (.inr (.inr (.inr s))) => wp (ab_ext L xs) J_Y_matchesPart 183 [] [] (hp g) Q
noncomputable def k_Y_matchesPart_89 (v0 : Nat) (v1 : Int32) (v2 : Int32) (v4 : Int32) (w0 : Int64) (w1 : Int32) (w2 : Nat) (g : g_S) : Option ((Int32) ⊕ ((Unit) ⊕ (Unit) ⊕ (Unit) ⊕ (Unit))) :=
  (vc g 112 w2 (M_Y_attributeOf w2 w1 w0 g)).bind fun z1 =>
  if z1 = (-1) then
    some (.inr (.inl ()))
  else
    (rQ g 112 v0 94).bind fun z2 =>
    (aI g 0 z2 v4).bind fun z3 =>
    if z3 = 35 then
      (rQ g 112 v0 60).bind fun z4 =>
      (aI g 0 z4 z1).bind fun z5 =>
      (rQ g 112 v0 95).bind fun z6 =>
      (aI g 0 z6 v4).bind fun z7 =>
      if z5 = z7 then
        (rQ g 112 v0 59).bind fun z8 =>
        (rQ g 112 v0 96).bind fun z9 =>
        (rQ g 112 v0 95).bind fun z10 =>
        (aI g 0 z10 v4).bind fun z11 =>
        (M_Y_same z8 (60 * z1) z9 (8 * v4) z11 g).bind fun z12 =>
        if z12 = 0 then
          some (.inr (.inr (.inl ())))
        else
          some (.inl (v4 + 1))
      else
        some (.inr (.inr (.inl ())))
    else
      (vc g 112 v0 (M_Y_hasClass v0 z1 v4 g)).bind fun z13 =>
      if z13 = 0 then
        some (.inr (.inr (.inr (.inl ()))))
      else
        some (.inl (v4 + 1))
set_option maxRecDepth 20000 in
theorem x_Y_matchesPart_89 {L : Nat} {xs : Nat → Int32} {Q : Option Value → ab_H → Prop} {v0 : Nat} {v1 : Int32} {v2 : Int32} {v4 : Int32} {w0 : Int64} {w1 : Int32} {w2 : Nat} {g : g_S} {out : (Int32) ⊕ ((Unit) ⊕ (Unit) ⊕ (Unit) ⊕ (Unit))} (e : k_Y_matchesPart_89 v0 v1 v2 v4 w0 w1 w2 g = some out) (c : cL_Y_matchesPart_51 L xs Q v0 v1 v2 g out) : wp (ab_ext L xs) J_Y_matchesPart 89 [(0, .ref v0), (1, .int v1), (2, .int v2), (4, .int v4)] [.long w0, .int w1, .ref w2] (hp g) Q := by
  unfold k_Y_matchesPart_89 at e
  refine x_cv1 (As := [.int w1, .long w0]) (rest := []) Value.int e rfl rfl rfl rfl rfl rfl (fun h => d_Y_attributeOf h ⟨rfl, rfl⟩) (fun z1 e => ?_)
  refine wp_p (j := J_Y_matchesPart) 3 (pc' := 97) (lv' := [(5, .int z1), (0, .ref v0), (1, .int v1), (2, .int v2), (4, .int v4)]) (st' := [.int (-1), .int z1]) rfl ?_
  refine x_ne e rfl (fun e => ?_) (fun e => ?_)
  · have e := Option.some.inj e; subst e; exact wp_lv (lv' := []) rfl trivial c
  · refine wp_p (j := J_Y_matchesPart) 1 (pc' := 103) (lv' := [(5, .int z1), (0, .ref v0), (1, .int v1), (2, .int v2), (4, .int v4)]) (st' := [.ref v0]) rfl ?_
    refine x_gQ e rfl rfl fd_12_94 rfl (fun z2 e => ?_)
    refine wp_p (j := J_Y_matchesPart) 1 (pc' := 108) (lv' := [(5, .int z1), (0, .ref v0), (1, .int v1), (2, .int v2), (4, .int v4)]) (st' := [.int v4, .ref z2]) rfl ?_
    refine x_aI e rfl rfl (fun z3 e => ?_)
    refine wp_p (j := J_Y_matchesPart) 1 (pc' := 111) (lv' := [(5, .int z1), (0, .ref v0), (1, .int v1), (2, .int v2), (4, .int v4)]) (st' := [.int 35, .int z3]) rfl ?_
    refine x_ne e rfl (fun e => ?_) (fun e => ?_)
    · refine wp_p (j := J_Y_matchesPart) 1 (pc' := 115) (lv' := [(5, .int z1), (0, .ref v0), (1, .int v1), (2, .int v2), (4, .int v4)]) (st' := [.ref v0]) rfl ?_
      refine x_gQ e rfl rfl fd_12_60 rfl (fun z4 e => ?_)
      refine wp_p (j := J_Y_matchesPart) 1 (pc' := 120) (lv' := [(5, .int z1), (0, .ref v0), (1, .int v1), (2, .int v2), (4, .int v4)]) (st' := [.int z1, .ref z4]) rfl ?_
      refine x_aI e rfl rfl (fun z5 e => ?_)
      refine wp_p (j := J_Y_matchesPart) 1 (pc' := 122) (lv' := [(5, .int z1), (0, .ref v0), (1, .int v1), (2, .int v2), (4, .int v4)]) (st' := [.ref v0, .int z5]) rfl ?_
      refine x_gQ e rfl rfl fd_12_95 rfl (fun z6 e => ?_)
      refine wp_p (j := J_Y_matchesPart) 1 (pc' := 127) (lv' := [(5, .int z1), (0, .ref v0), (1, .int v1), (2, .int v2), (4, .int v4)]) (st' := [.int v4, .ref z6, .int z5]) rfl ?_
      refine x_aI e rfl rfl (fun z7 e => ?_)
      refine x_ne e rfl (fun e => ?_) (fun e => ?_)
      · refine wp_p (j := J_Y_matchesPart) 1 (pc' := 132) (lv' := [(5, .int z1), (0, .ref v0), (1, .int v1), (2, .int v2), (4, .int v4)]) (st' := [.ref v0]) rfl ?_
        refine x_gQ e rfl rfl fd_12_59 rfl (fun z8 e => ?_)
        refine wp_p (j := J_Y_matchesPart) 4 (pc' := 141) (lv' := [(5, .int z1), (0, .ref v0), (1, .int v1), (2, .int v2), (4, .int v4)]) (st' := [.ref v0, .int (60 * z1), .ref z8]) rfl ?_
        refine x_gQ e rfl rfl fd_12_96 rfl (fun z9 e => ?_)
        refine wp_p (j := J_Y_matchesPart) 4 (pc' := 150) (lv' := [(5, .int z1), (0, .ref v0), (1, .int v1), (2, .int v2), (4, .int v4)]) (st' := [.ref v0, .int (8 * v4), .ref z9, .int (60 * z1), .ref z8]) rfl ?_
        refine x_gQ e rfl rfl fd_12_95 rfl (fun z10 e => ?_)
        refine wp_p (j := J_Y_matchesPart) 1 (pc' := 155) (lv' := [(5, .int z1), (0, .ref v0), (1, .int v1), (2, .int v2), (4, .int v4)]) (st' := [.int v4, .ref z10, .int (8 * v4), .ref z9, .int (60 * z1), .ref z8]) rfl ?_
        refine x_aI e rfl rfl (fun z11 e => ?_)
        refine x_cs1 (As := [.ref z8, .int (60 * z1), .ref z9, .int (8 * v4), .int z11]) (rest := []) Value.int e rfl rfl rfl rfl rfl (fun h => d_Y_same h ⟨rfl, rfl⟩) (fun z12 e => ?_)
        refine z_ne e rfl (fun e => ?_) (fun e => ?_)
        · have e := Option.some.inj e; subst e; exact wp_lv (lv' := []) rfl trivial c
        · refine wp_p (j := J_Y_matchesPart) 2 (pc' := 51) (lv' := [(4, .int (v4 + 1)), (5, .int z1), (0, .ref v0), (1, .int v1), (2, .int v2)]) (st' := []) rfl ?_
          have e := Option.some.inj e; subst e; exact wp_lv (lv' := [(0, .ref v0), (1, .int v1), (2, .int v2), (4, .int (v4 + 1))]) rfl ⟨rfl, rfl, rfl, rfl, trivial⟩ c
      · have e := Option.some.inj e; subst e; exact wp_lv (lv' := []) rfl trivial c
    · refine wp_p (j := J_Y_matchesPart) 3 (pc' := 169) (lv' := [(5, .int z1), (0, .ref v0), (1, .int v1), (2, .int v2), (4, .int v4)]) (st' := [.int v4, .int z1, .ref v0]) rfl ?_
      refine x_cv1 (As := [.int z1, .int v4]) (rest := []) Value.int e rfl rfl rfl rfl rfl rfl (fun h => d_Y_hasClass h ⟨rfl, rfl⟩) (fun z13 e => ?_)
      refine z_ne e rfl (fun e => ?_) (fun e => ?_)
      · have e := Option.some.inj e; subst e; exact wp_lv (lv' := []) rfl trivial c
      · refine wp_p (j := J_Y_matchesPart) 2 (pc' := 51) (lv' := [(4, .int (v4 + 1)), (5, .int z1), (0, .ref v0), (1, .int v1), (2, .int v2)]) (st' := []) rfl ?_
        have e := Option.some.inj e; subst e; exact wp_lv (lv' := [(0, .ref v0), (1, .int v1), (2, .int v2), (4, .int (v4 + 1))]) rfl ⟨rfl, rfl, rfl, rfl, trivial⟩ c
noncomputable def b_Y_matchesPart_51 (v0 : Nat) (v1 : Int32) (v2 : Int32) (v4 : Int32) (g : g_S) : Option ((Int32) ⊕ ((Unit) ⊕ (Unit) ⊕ (Unit) ⊕ (Unit))) :=
  (rQ g 112 v0 93).bind fun z1 =>
  (aI g 0 z1 v2).bind fun z2 =>
  if v4 < ((4 * v2) + z2) then
    (rQ g 112 v0 94).bind fun z3 =>
    (aI g 0 z3 v4).bind fun z4 =>
    if z4 = 35 then
      k_Y_matchesPart_89 v0 v1 v2 v4 137 v1 v0 g
    else
      k_Y_matchesPart_89 v0 v1 v2 v4 20546947 v1 v0 g
  else
    some (.inr (.inr (.inr (.inr ()))))
set_option maxRecDepth 20000 in
theorem y_Y_matchesPart_51 {L : Nat} {xs : Nat → Int32} {Q : Option Value → ab_H → Prop} {v0 : Nat} {v1 : Int32} {v2 : Int32} {v4 : Int32} {g : g_S} {out : (Int32) ⊕ ((Unit) ⊕ (Unit) ⊕ (Unit) ⊕ (Unit))} (e : b_Y_matchesPart_51 v0 v1 v2 v4 g = some out) (c : cL_Y_matchesPart_51 L xs Q v0 v1 v2 g out) : wp (ab_ext L xs) J_Y_matchesPart 51 [(0, .ref v0), (1, .int v1), (2, .int v2), (4, .int v4)] [] (hp g) Q := by
  unfold b_Y_matchesPart_51 at e
  refine wp_p (j := J_Y_matchesPart) 5 (pc' := 57) (lv' := [(0, .ref v0), (1, .int v1), (2, .int v2), (4, .int v4)]) (st' := [.ref v0, .int (4 * v2), .int v4]) rfl ?_
  refine x_gQ e rfl rfl fd_12_93 rfl (fun z1 e => ?_)
  refine wp_p (j := J_Y_matchesPart) 1 (pc' := 61) (lv' := [(0, .ref v0), (1, .int v1), (2, .int v2), (4, .int v4)]) (st' := [.int v2, .ref z1, .int (4 * v2), .int v4]) rfl ?_
  refine x_aI e rfl rfl (fun z2 e => ?_)
  refine wp_p (j := J_Y_matchesPart) 1 (pc' := 63) (lv' := [(0, .ref v0), (1, .int v1), (2, .int v2), (4, .int v4)]) (st' := [.int ((4 * v2) + z2), .int v4]) rfl ?_
  refine x_ge e rfl (fun e => ?_) (fun e => ?_)
  · refine wp_p (j := J_Y_matchesPart) 3 (pc' := 69) (lv' := [(0, .ref v0), (1, .int v1), (2, .int v2), (4, .int v4)]) (st' := [.ref v0, .int v1, .ref v0]) rfl ?_
    refine x_gQ e rfl rfl fd_12_94 rfl (fun z3 e => ?_)
    refine wp_p (j := J_Y_matchesPart) 1 (pc' := 74) (lv' := [(0, .ref v0), (1, .int v1), (2, .int v2), (4, .int v4)]) (st' := [.int v4, .ref z3, .int v1, .ref v0]) rfl ?_
    refine x_aI e rfl rfl (fun z4 e => ?_)
    refine wp_p (j := J_Y_matchesPart) 1 (pc' := 77) (lv' := [(0, .ref v0), (1, .int v1), (2, .int v2), (4, .int v4)]) (st' := [.int 35, .int z4, .int v1, .ref v0]) rfl ?_
    refine x_ne e rfl (fun e => ?_) (fun e => ?_)
    · refine x_l2 (xl := 137) rfl rfl rfl ?_
      refine wp_p (j := J_Y_matchesPart) 1 (pc' := 89) (lv' := [(0, .ref v0), (1, .int v1), (2, .int v2), (4, .int v4)]) (st' := [.long 137, .int v1, .ref v0]) rfl ?_
      exact wp_lv (lv' := [(0, .ref v0), (1, .int v1), (2, .int v2), (4, .int v4)]) rfl ⟨rfl, rfl, rfl, rfl, trivial⟩ (x_Y_matchesPart_89 e c)
    · refine x_l2 (xl := 20546947) rfl rfl rfl ?_
      exact wp_lv (lv' := [(0, .ref v0), (1, .int v1), (2, .int v2), (4, .int v4)]) rfl ⟨rfl, rfl, rfl, rfl, trivial⟩ (x_Y_matchesPart_89 e c)
  · have e := Option.some.inj e; subst e; exact wp_lv (lv' := []) rfl trivial c
noncomputable def L_Y_matchesPart_51 (v0 : Nat) (v1 : Int32) (v2 : Int32) (v4 : Int32) (g : g_S) : Option ((Unit) ⊕ (Unit) ⊕ (Unit) ⊕ (Unit)) := it (fun s : Int32 => b_Y_matchesPart_51 v0 v1 v2 s g) (v4)
theorem l_Y_matchesPart_51 {L : Nat} {xs : Nat → Int32} {Q : Option Value → ab_H → Prop} {v0 : Nat} {v1 : Int32} {v2 : Int32} {v4 : Int32} {g : g_S} {r : (Unit) ⊕ (Unit) ⊕ (Unit) ⊕ (Unit)} (e : L_Y_matchesPart_51 v0 v1 v2 v4 g = some r) (c : cL_Y_matchesPart_51 L xs Q v0 v1 v2 g (.inr r)) : wp (ab_ext L xs) J_Y_matchesPart 51 [(0, .ref v0), (1, .int v1), (2, .int v2), (4, .int v4)] [] (hp g) Q :=
  it_wp (P := fun s : Int32 => wp (ab_ext L xs) J_Y_matchesPart 51 [(0, .ref v0), (1, .int v1), (2, .int v2), (4, .int s)] [] (hp g) Q) (E := fun r => cL_Y_matchesPart_51 L xs Q v0 v1 v2 g (.inr r)) (fun s out e c => y_Y_matchesPart_51 e (by cases out <;> exact c)) e c
theorem L_Y_matchesPart_51_eq (v0 : Nat) (v1 : Int32) (v2 : Int32) (v4 : Int32) (g : g_S) : L_Y_matchesPart_51 v0 v1 v2 v4 g = itc (b_Y_matchesPart_51 v0 v1 v2 v4 g) (fun s => L_Y_matchesPart_51 v0 v1 v2 s g) := it_eq2 (fun s : Int32 => b_Y_matchesPart_51 v0 v1 v2 s g) (v4)
noncomputable def k_Y_matchesPart_46 (v0 : Nat) (v1 : Int32) (v2 : Int32) (g : g_S) : Option Int32 :=
  (L_Y_matchesPart_51 v0 v1 v2 (4 * v2) g).bind <|
    us (fun _ =>
    some 0)
    (us (fun _ =>
    some 0)
    (us (fun _ =>
    some 0)
    (fun _ =>
    some 1)))
set_option maxRecDepth 20000 in
theorem x_Y_matchesPart_46 {L : Nat} {xs : Nat → Int32} {Q : Option Value → ab_H → Prop} {v0 : Nat} {v1 : Int32} {v2 : Int32} {g : g_S} {out : Int32} (e : k_Y_matchesPart_46 v0 v1 v2 g = some out) (c : Q (some (.int out)) (hp g)) : wp (ab_ext L xs) J_Y_matchesPart 46 [(0, .ref v0), (1, .int v1), (2, .int v2)] [] (hp g) Q := by
  unfold k_Y_matchesPart_46 at e
  refine wp_p (j := J_Y_matchesPart) 4 (pc' := 51) (lv' := [(4, .int (4 * v2)), (0, .ref v0), (1, .int v1), (2, .int v2)]) (st' := []) rfl ?_
  obtain ⟨s1, h2, e⟩ := bd e
  refine wp_lv (lv' := [(0, .ref v0), (1, .int v1), (2, .int v2), (4, .int (4 * v2))]) rfl ⟨rfl, rfl, rfl, rfl, trivial⟩ ?_
  refine l_Y_matchesPart_51 h2 ?_
  rcases s1 with _ | _ | _ | _
  · replace e := (us_l e)
    show wp (ab_ext L xs) J_Y_matchesPart 100 [] [] (hp g) Q
    refine wp_p (j := J_Y_matchesPart) 1 (pc' := 101) (lv' := []) (st' := [.int 0]) rfl ?_
    have e := Option.some.inj e; subst e; exact wp_iret (ty := .boolean) rfl rfl (by decide) c
  · replace e := (us_l (us_r e))
    show wp (ab_ext L xs) J_Y_matchesPart 162 [] [] (hp g) Q
    refine wp_p (j := J_Y_matchesPart) 1 (pc' := 163) (lv' := []) (st' := [.int 0]) rfl ?_
    have e := Option.some.inj e; subst e; exact wp_iret (ty := .boolean) rfl rfl (by decide) c
  · replace e := (us_l (us_r (us_r e)))
    show wp (ab_ext L xs) J_Y_matchesPart 175 [] [] (hp g) Q
    refine wp_p (j := J_Y_matchesPart) 1 (pc' := 176) (lv' := []) (st' := [.int 0]) rfl ?_
    have e := Option.some.inj e; subst e; exact wp_iret (ty := .boolean) rfl rfl (by decide) c
  · replace e := (us_r (us_r (us_r e)))
    show wp (ab_ext L xs) J_Y_matchesPart 183 [] [] (hp g) Q
    refine wp_p (j := J_Y_matchesPart) 1 (pc' := 184) (lv' := []) (st' := [.int 1]) rfl ?_
    have e := Option.some.inj e; subst e; exact wp_iret (ty := .boolean) rfl rfl (by decide) c
noncomputable def M_Y_matchesPart (v0 : Nat) (v1 : Int32) (v2 : Int32) (g : g_S) : Option Int32 :=
  (rQ g 112 v0 91).bind fun z1 =>
  (aI g 0 z1 v2).bind fun z2 =>
  if 0 < z2 then
    (rQ g 112 v0 48).bind fun z3 =>
    (aI g 0 z3 v1).bind fun z4 =>
    if z4 = z2 then
      (rQ g 112 v0 47).bind fun z5 =>
      (rQ g 112 v0 92).bind fun z6 =>
      (M_Y_same z5 (8 * v1) z6 (8 * v2) z2 g).bind fun z7 =>
      if z7 = 0 then
        some 0
      else
        k_Y_matchesPart_46 v0 v1 v2 g
    else
      some 0
  else
    k_Y_matchesPart_46 v0 v1 v2 g
set_option maxRecDepth 20000 in
theorem d_Y_matchesPart {L : Nat} {xs : Nat → Int32} {Q : Option Value → ab_H → Prop} {v0 : Nat} {v1 : Int32} {v2 : Int32} {g : g_S} {out : Int32} (e : M_Y_matchesPart v0 v1 v2 g = some out) (c : Q (some (.int out)) (hp g)) : mw (ab_ext L xs) J_Y_matchesPart [.ref v0, .int v1, .int v2] (hp g) Q := by
  unfold M_Y_matchesPart at e
  refine wp_p (j := J_Y_matchesPart) 1 (pc' := 1) (lv' := [(0, .ref v0), (1, .int v1), (2, .int v2)]) (st' := [.ref v0]) rfl ?_
  refine x_gQ e rfl rfl fd_12_91 rfl (fun z1 e => ?_)
  refine wp_p (j := J_Y_matchesPart) 1 (pc' := 5) (lv' := [(0, .ref v0), (1, .int v1), (2, .int v2)]) (st' := [.int v2, .ref z1]) rfl ?_
  refine x_aI e rfl rfl (fun z2 e => ?_)
  refine wp_p (j := J_Y_matchesPart) 2 (pc' := 8) (lv' := [(3, .int z2), (0, .ref v0), (1, .int v1), (2, .int v2)]) (st' := [.int z2]) rfl ?_
  refine z_le e rfl (fun e => ?_) (fun e => ?_)
  · refine wp_p (j := J_Y_matchesPart) 1 (pc' := 12) (lv' := [(3, .int z2), (0, .ref v0), (1, .int v1), (2, .int v2)]) (st' := [.ref v0]) rfl ?_
    refine x_gQ e rfl rfl fd_12_48 rfl (fun z3 e => ?_)
    refine wp_p (j := J_Y_matchesPart) 1 (pc' := 16) (lv' := [(3, .int z2), (0, .ref v0), (1, .int v1), (2, .int v2)]) (st' := [.int v1, .ref z3]) rfl ?_
    refine x_aI e rfl rfl (fun z4 e => ?_)
    refine wp_p (j := J_Y_matchesPart) 1 (pc' := 18) (lv' := [(3, .int z2), (0, .ref v0), (1, .int v1), (2, .int v2)]) (st' := [.int z2, .int z4]) rfl ?_
    refine x_ne e rfl (fun e => ?_) (fun e => ?_)
    · refine wp_p (j := J_Y_matchesPart) 1 (pc' := 22) (lv' := [(3, .int z2), (0, .ref v0), (1, .int v1), (2, .int v2)]) (st' := [.ref v0]) rfl ?_
      refine x_gQ e rfl rfl fd_12_47 rfl (fun z5 e => ?_)
      refine wp_p (j := J_Y_matchesPart) 4 (pc' := 30) (lv' := [(3, .int z2), (0, .ref v0), (1, .int v1), (2, .int v2)]) (st' := [.ref v0, .int (8 * v1), .ref z5]) rfl ?_
      refine x_gQ e rfl rfl fd_12_92 rfl (fun z6 e => ?_)
      refine wp_p (j := J_Y_matchesPart) 4 (pc' := 38) (lv' := [(3, .int z2), (0, .ref v0), (1, .int v1), (2, .int v2)]) (st' := [.int z2, .int (8 * v2), .ref z6, .int (8 * v1), .ref z5]) rfl ?_
      refine x_cs1 (As := [.ref z5, .int (8 * v1), .ref z6, .int (8 * v2), .int z2]) (rest := []) Value.int e rfl rfl rfl rfl rfl (fun h => d_Y_same h ⟨rfl, rfl⟩) (fun z7 e => ?_)
      refine z_ne e rfl (fun e => ?_) (fun e => ?_)
      · refine wp_p (j := J_Y_matchesPart) 1 (pc' := 45) (lv' := [(3, .int z2), (0, .ref v0), (1, .int v1), (2, .int v2)]) (st' := [.int 0]) rfl ?_
        have e := Option.some.inj e; subst e; exact wp_iret (ty := .boolean) rfl rfl (by decide) c
      · exact wp_lv (lv' := [(0, .ref v0), (1, .int v1), (2, .int v2)]) rfl ⟨rfl, rfl, rfl, trivial⟩ (x_Y_matchesPart_46 e c)
    · refine wp_p (j := J_Y_matchesPart) 1 (pc' := 45) (lv' := [(3, .int z2), (0, .ref v0), (1, .int v1), (2, .int v2)]) (st' := [.int 0]) rfl ?_
      have e := Option.some.inj e; subst e; exact wp_iret (ty := .boolean) rfl rfl (by decide) c
  · exact wp_lv (lv' := [(0, .ref v0), (1, .int v1), (2, .int v2)]) rfl ⟨rfl, rfl, rfl, trivial⟩ (x_Y_matchesPart_46 e c)
def cL_Y_matches_35 (L : Nat) (xs : Nat → Int32) (Q : Option Value → ab_H → Prop) (v0 : Nat) (v2 : Int32) (g : g_S) (out : (Int32 × Int32) ⊕ (Int32)) : Prop := match out with
  | .inl s => wp (ab_ext L xs) J_Y_matches 35 [(0, .ref v0), (2, .int v2), (3, .int s.1), (4, .int s.2)] [] (hp g) Q
  | .inr s => wp (ab_ext L xs) J_Y_matches 74 [(3, .int s)] [] (hp g) Q
noncomputable def k_Y_matches_62 (v0 : Nat) (v2 : Int32) (v3 : Int32) (v4 : Int32) (g : g_S) : Option ((Int32 × Int32) ⊕ (Int32)) :=
  (rQ g 112 v0 49).bind fun z1 =>
  (aI g 0 z1 v4).bind fun z2 =>
  some (.inl (v3, z2))
set_option maxRecDepth 20000 in
theorem x_Y_matches_62 {L : Nat} {xs : Nat → Int32} {Q : Option Value → ab_H → Prop} {v0 : Nat} {v2 : Int32} {v3 : Int32} {v4 : Int32} {g : g_S} {out : (Int32 × Int32) ⊕ (Int32)} (e : k_Y_matches_62 v0 v2 v3 v4 g = some out) (c : cL_Y_matches_35 L xs Q v0 v2 g out) : wp (ab_ext L xs) J_Y_matches 62 [(0, .ref v0), (2, .int v2), (3, .int v3), (4, .int v4)] [] (hp g) Q := by
  unfold k_Y_matches_62 at e
  refine wp_p (j := J_Y_matches) 1 (pc' := 63) (lv' := [(0, .ref v0), (2, .int v2), (3, .int v3), (4, .int v4)]) (st' := [.ref v0]) rfl ?_
  refine x_gQ e rfl rfl fd_12_49 rfl (fun z1 e => ?_)
  refine wp_p (j := J_Y_matches) 1 (pc' := 68) (lv' := [(0, .ref v0), (2, .int v2), (3, .int v3), (4, .int v4)]) (st' := [.int v4, .ref z1]) rfl ?_
  refine x_aI e rfl rfl (fun z2 e => ?_)
  refine wp_p (j := J_Y_matches) 2 (pc' := 35) (lv' := [(4, .int z2), (0, .ref v0), (2, .int v2), (3, .int v3)]) (st' := []) rfl ?_
  have e := Option.some.inj e; subst e; exact wp_lv (lv' := [(0, .ref v0), (2, .int v2), (3, .int v3), (4, .int z2)]) rfl ⟨rfl, rfl, rfl, rfl, trivial⟩ c
noncomputable def b_Y_matches_35 (v0 : Nat) (v2 : Int32) (v3 : Int32) (v4 : Int32) (g : g_S) : Option ((Int32 × Int32) ⊕ (Int32)) :=
  if v3 < 0 then
    some (.inr v3)
  else
    if v4 = (-1) then
      some (.inr v3)
    else
      (vc g 112 v0 (M_Y_matchesPart v0 v4 ((3 * v2) + v3) g)).bind fun z1 =>
      if z1 = 0 then
        k_Y_matches_62 v0 v2 v3 v4 g
      else
        k_Y_matches_62 v0 v2 (v3 + (-1)) v4 g
set_option maxRecDepth 20000 in
theorem y_Y_matches_35 {L : Nat} {xs : Nat → Int32} {Q : Option Value → ab_H → Prop} {v0 : Nat} {v2 : Int32} {v3 : Int32} {v4 : Int32} {g : g_S} {out : (Int32 × Int32) ⊕ (Int32)} (e : b_Y_matches_35 v0 v2 v3 v4 g = some out) (c : cL_Y_matches_35 L xs Q v0 v2 g out) : wp (ab_ext L xs) J_Y_matches 35 [(0, .ref v0), (2, .int v2), (3, .int v3), (4, .int v4)] [] (hp g) Q := by
  unfold b_Y_matches_35 at e
  refine wp_p (j := J_Y_matches) 1 (pc' := 36) (lv' := [(0, .ref v0), (2, .int v2), (3, .int v3), (4, .int v4)]) (st' := [.int v3]) rfl ?_
  refine z_lt e rfl (fun e => ?_) (fun e => ?_)
  · have e := Option.some.inj e; subst e; exact wp_lv (lv' := [(3, .int v3)]) rfl ⟨rfl, trivial⟩ c
  · refine wp_p (j := J_Y_matches) 2 (pc' := 42) (lv' := [(0, .ref v0), (2, .int v2), (3, .int v3), (4, .int v4)]) (st' := [.int (-1), .int v4]) rfl ?_
    refine x_eq e rfl (fun e => ?_) (fun e => ?_)
    · have e := Option.some.inj e; subst e; exact wp_lv (lv' := [(3, .int v3)]) rfl ⟨rfl, trivial⟩ c
    · refine wp_p (j := J_Y_matches) 7 (pc' := 53) (lv' := [(0, .ref v0), (2, .int v2), (3, .int v3), (4, .int v4)]) (st' := [.int ((3 * v2) + v3), .int v4, .ref v0]) rfl ?_
      refine x_cv1 (As := [.int v4, .int ((3 * v2) + v3)]) (rest := []) Value.int e rfl rfl rfl rfl rfl rfl (fun h => d_Y_matchesPart h ⟨rfl, rfl⟩) (fun z1 e => ?_)
      refine z_eq e rfl (fun e => ?_) (fun e => ?_)
      · exact wp_lv (lv' := [(0, .ref v0), (2, .int v2), (3, .int v3), (4, .int v4)]) rfl ⟨rfl, rfl, rfl, rfl, trivial⟩ (x_Y_matches_62 e c)
      · refine wp_p (j := J_Y_matches) 1 (pc' := 62) (lv' := [(3, .int (v3 + (-1))), (0, .ref v0), (2, .int v2), (4, .int v4)]) (st' := []) rfl ?_
        exact wp_lv (lv' := [(0, .ref v0), (2, .int v2), (3, .int (v3 + (-1))), (4, .int v4)]) rfl ⟨rfl, rfl, rfl, rfl, trivial⟩ (x_Y_matches_62 e c)
noncomputable def L_Y_matches_35 (v0 : Nat) (v2 : Int32) (v3 : Int32) (v4 : Int32) (g : g_S) : Option (Int32) := it (fun s : Int32 × Int32 => b_Y_matches_35 v0 v2 s.1 s.2 g) (v3, v4)
theorem l_Y_matches_35 {L : Nat} {xs : Nat → Int32} {Q : Option Value → ab_H → Prop} {v0 : Nat} {v2 : Int32} {v3 : Int32} {v4 : Int32} {g : g_S} {r : Int32} (e : L_Y_matches_35 v0 v2 v3 v4 g = some r) (c : cL_Y_matches_35 L xs Q v0 v2 g (.inr r)) : wp (ab_ext L xs) J_Y_matches 35 [(0, .ref v0), (2, .int v2), (3, .int v3), (4, .int v4)] [] (hp g) Q :=
  it_wp (P := fun s : Int32 × Int32 => wp (ab_ext L xs) J_Y_matches 35 [(0, .ref v0), (2, .int v2), (3, .int s.1), (4, .int s.2)] [] (hp g) Q) (E := fun r => cL_Y_matches_35 L xs Q v0 v2 g (.inr r)) (fun s out e c => y_Y_matches_35 e (by cases out <;> exact c)) e c
theorem L_Y_matches_35_eq (v0 : Nat) (v2 : Int32) (v3 : Int32) (v4 : Int32) (g : g_S) : L_Y_matches_35 v0 v2 v3 v4 g = itc (b_Y_matches_35 v0 v2 v3 v4 g) (fun s => L_Y_matches_35 v0 v2 s.1 s.2 g) := it_eq2 (fun s : Int32 × Int32 => b_Y_matches_35 v0 v2 s.1 s.2 g) (v3, v4)
noncomputable def k_Y_matches_74 (v3 : Int32) (g : g_S) : Option Int32 :=
  if v3 < 0 then
    some 1
  else
    some 0
set_option maxRecDepth 20000 in
theorem x_Y_matches_74 {L : Nat} {xs : Nat → Int32} {Q : Option Value → ab_H → Prop} {v3 : Int32} {g : g_S} {out : Int32} (e : k_Y_matches_74 v3 g = some out) (c : Q (some (.int out)) (hp g)) : wp (ab_ext L xs) J_Y_matches 74 [(3, .int v3)] [] (hp g) Q := by
  unfold k_Y_matches_74 at e
  refine wp_p (j := J_Y_matches) 1 (pc' := 75) (lv' := [(3, .int v3)]) (st' := [.int v3]) rfl ?_
  refine z_ge e rfl (fun e => ?_) (fun e => ?_)
  · refine wp_p (j := J_Y_matches) 2 (pc' := 83) (lv' := [(3, .int v3)]) (st' := [.int 1]) rfl ?_
    have e := Option.some.inj e; subst e; exact wp_iret (ty := .boolean) rfl rfl (by decide) c
  · refine wp_p (j := J_Y_matches) 1 (pc' := 83) (lv' := [(3, .int v3)]) (st' := [.int 0]) rfl ?_
    have e := Option.some.inj e; subst e; exact wp_iret (ty := .boolean) rfl rfl (by decide) c
noncomputable def M_Y_matches (v0 : Nat) (v1 : Int32) (v2 : Int32) (g : g_S) : Option Int32 :=
  (rQ g 112 v0 90).bind fun z1 =>
  (aI g 0 z1 v2).bind fun z2 =>
  (vc g 112 v0 (M_Y_matchesPart v0 v1 ((3 * v2) + (z2 - 1)) g)).bind fun z3 =>
  if z3 = 0 then
    some 0
  else
    (rQ g 112 v0 49).bind fun z4 =>
    (aI g 0 z4 v1).bind fun z5 =>
    (L_Y_matches_35 v0 v2 ((z2 - 1) + (-1)) z5 g).bind <| fun z8 =>
    k_Y_matches_74 z8 g
set_option maxRecDepth 20000 in
theorem d_Y_matches {L : Nat} {xs : Nat → Int32} {Q : Option Value → ab_H → Prop} {v0 : Nat} {v1 : Int32} {v2 : Int32} {g : g_S} {out : Int32} (e : M_Y_matches v0 v1 v2 g = some out) (c : Q (some (.int out)) (hp g)) : mw (ab_ext L xs) J_Y_matches [.ref v0, .int v1, .int v2] (hp g) Q := by
  unfold M_Y_matches at e
  refine wp_p (j := J_Y_matches) 1 (pc' := 1) (lv' := [(0, .ref v0), (1, .int v1), (2, .int v2)]) (st' := [.ref v0]) rfl ?_
  refine x_gQ e rfl rfl fd_12_90 rfl (fun z1 e => ?_)
  refine wp_p (j := J_Y_matches) 1 (pc' := 5) (lv' := [(0, .ref v0), (1, .int v1), (2, .int v2)]) (st' := [.int v2, .ref z1]) rfl ?_
  refine x_aI e rfl rfl (fun z2 e => ?_)
  refine wp_p (j := J_Y_matches) 10 (pc' := 16) (lv' := [(3, .int (z2 - 1)), (0, .ref v0), (1, .int v1), (2, .int v2)]) (st' := [.int ((3 * v2) + (z2 - 1)), .int v1, .ref v0]) rfl ?_
  refine x_cv1 (As := [.int v1, .int ((3 * v2) + (z2 - 1))]) (rest := []) Value.int e rfl rfl rfl rfl rfl rfl (fun h => d_Y_matchesPart h ⟨rfl, rfl⟩) (fun z3 e => ?_)
  refine z_ne e rfl (fun e => ?_) (fun e => ?_)
  · refine wp_p (j := J_Y_matches) 1 (pc' := 23) (lv' := [(3, .int (z2 - 1)), (0, .ref v0), (1, .int v1), (2, .int v2)]) (st' := [.int 0]) rfl ?_
    have e := Option.some.inj e; subst e; exact wp_iret (ty := .boolean) rfl rfl (by decide) c
  · refine wp_p (j := J_Y_matches) 1 (pc' := 25) (lv' := [(3, .int (z2 - 1)), (0, .ref v0), (1, .int v1), (2, .int v2)]) (st' := [.ref v0]) rfl ?_
    refine x_gQ e rfl rfl fd_12_49 rfl (fun z4 e => ?_)
    refine wp_p (j := J_Y_matches) 1 (pc' := 29) (lv' := [(3, .int (z2 - 1)), (0, .ref v0), (1, .int v1), (2, .int v2)]) (st' := [.int v1, .ref z4]) rfl ?_
    refine x_aI e rfl rfl (fun z5 e => ?_)
    refine wp_p (j := J_Y_matches) 2 (pc' := 35) (lv' := [(3, .int ((z2 - 1) + (-1))), (4, .int z5), (0, .ref v0), (1, .int v1), (2, .int v2)]) (st' := []) rfl ?_
    obtain ⟨z8, h7, e⟩ := bd e
    refine wp_lv (lv' := [(0, .ref v0), (2, .int v2), (3, .int ((z2 - 1) + (-1))), (4, .int z5)]) rfl ⟨rfl, rfl, rfl, rfl, trivial⟩ ?_
    refine l_Y_matches_35 h7 ?_
    show wp (ab_ext L xs) J_Y_matches 74 [(3, .int z8)] [] (hp g) Q
    exact wp_lv (lv' := [(3, .int z8)]) rfl ⟨rfl, trivial⟩ (x_Y_matches_74 e c)
def cL_Y_select_70 (L : Nat) (xs : Nat → Int32) (Q : Option Value → ab_H → Prop) (v0 : Nat) (out : (Int32 × g_S) ⊕ (g_S)) : Prop := match out with
  | .inl s => wp (ab_ext L xs) J_Y_select 70 [(0, .ref v0), (3, .int s.1)] [] (hp s.2) Q
  | .inr s => wp (ab_ext L xs) J_Y_select 126 [(0, .ref v0)] [] (hp s) Q
noncomputable def k_Y_select_116 (v0 : Nat) (v3 : Int32) (g : g_S) : Option ((Int32 × g_S) ⊕ (g_S)) :=
  (vc g 112 v0 (M_Y_after v0 v3 0 g)).bind fun z1 =>
  some (.inl (z1, g))
set_option maxRecDepth 20000 in
theorem x_Y_select_116 {L : Nat} {xs : Nat → Int32} {Q : Option Value → ab_H → Prop} {v0 : Nat} {v3 : Int32} {g : g_S} {out : (Int32 × g_S) ⊕ (g_S)} (e : k_Y_select_116 v0 v3 g = some out) (c : cL_Y_select_70 L xs Q v0 out) : wp (ab_ext L xs) J_Y_select 116 [(0, .ref v0), (3, .int v3)] [] (hp g) Q := by
  unfold k_Y_select_116 at e
  refine wp_p (j := J_Y_select) 3 (pc' := 119) (lv' := [(0, .ref v0), (3, .int v3)]) (st' := [.int 0, .int v3, .ref v0]) rfl ?_
  refine x_cv1 (As := [.int v3, .int 0]) (rest := []) Value.int e rfl rfl rfl rfl rfl rfl (fun h => d_Y_after h ⟨rfl, rfl⟩) (fun z1 e => ?_)
  refine wp_p (j := J_Y_select) 2 (pc' := 70) (lv' := [(3, .int z1), (0, .ref v0)]) (st' := []) rfl ?_
  have e := Option.some.inj e; subst e; exact wp_lv (lv' := [(0, .ref v0), (3, .int z1)]) rfl ⟨rfl, rfl, trivial⟩ c
noncomputable def b_Y_select_70 (v0 : Nat) (v3 : Int32) (g : g_S) : Option ((Int32 × g_S) ⊕ (g_S)) :=
  if v3 = (-1) then
    some (.inr g)
  else
    (rQ g 112 v0 46).bind fun z1 =>
    (aI g 0 z1 v3).bind fun z2 =>
    if z2 = 17 then
      k_Y_select_116 v0 v3 g
    else
      (vc g 112 v0 (M_Y_matches v0 v3 40 g)).bind fun z3 =>
      if z3 = 0 then
        k_Y_select_116 v0 v3 g
      else
        (rQ g 112 v0 184).bind fun z4 =>
        (rI g 112 v0 185).bind fun z5 =>
        (sI g z4 z5 v3).bind fun g6 =>
        (rI g6 112 v0 185).bind fun z7 =>
        (wI g6 112 v0 185 (z7 + 1)).bind fun g8 =>
        k_Y_select_116 v0 v3 g8
set_option maxRecDepth 20000 in
theorem y_Y_select_70 {L : Nat} {xs : Nat → Int32} {Q : Option Value → ab_H → Prop} {v0 : Nat} {v3 : Int32} {g : g_S} {out : (Int32 × g_S) ⊕ (g_S)} (e : b_Y_select_70 v0 v3 g = some out) (c : cL_Y_select_70 L xs Q v0 out) : wp (ab_ext L xs) J_Y_select 70 [(0, .ref v0), (3, .int v3)] [] (hp g) Q := by
  unfold b_Y_select_70 at e
  refine wp_p (j := J_Y_select) 2 (pc' := 72) (lv' := [(0, .ref v0), (3, .int v3)]) (st' := [.int (-1), .int v3]) rfl ?_
  refine x_eq e rfl (fun e => ?_) (fun e => ?_)
  · have e := Option.some.inj e; subst e; exact wp_lv (lv' := [(0, .ref v0)]) rfl ⟨rfl, trivial⟩ c
  · refine wp_p (j := J_Y_select) 1 (pc' := 76) (lv' := [(0, .ref v0), (3, .int v3)]) (st' := [.ref v0]) rfl ?_
    refine x_gQ e rfl rfl fd_12_46 rfl (fun z1 e => ?_)
    refine wp_p (j := J_Y_select) 1 (pc' := 80) (lv' := [(0, .ref v0), (3, .int v3)]) (st' := [.int v3, .ref z1]) rfl ?_
    refine x_aI e rfl rfl (fun z2 e => ?_)
    refine wp_p (j := J_Y_select) 1 (pc' := 83) (lv' := [(0, .ref v0), (3, .int v3)]) (st' := [.int 17, .int z2]) rfl ?_
    refine x_eq e rfl (fun e => ?_) (fun e => ?_)
    · exact wp_lv (lv' := [(0, .ref v0), (3, .int v3)]) rfl ⟨rfl, rfl, trivial⟩ (x_Y_select_116 e c)
    · refine wp_p (j := J_Y_select) 3 (pc' := 90) (lv' := [(0, .ref v0), (3, .int v3)]) (st' := [.int 40, .int v3, .ref v0]) rfl ?_
      refine x_cv1 (As := [.int v3, .int 40]) (rest := []) Value.int e rfl rfl rfl rfl rfl rfl (fun h => d_Y_matches h ⟨rfl, rfl⟩) (fun z3 e => ?_)
      refine z_eq e rfl (fun e => ?_) (fun e => ?_)
      · exact wp_lv (lv' := [(0, .ref v0), (3, .int v3)]) rfl ⟨rfl, rfl, trivial⟩ (x_Y_select_116 e c)
      · refine wp_p (j := J_Y_select) 1 (pc' := 97) (lv' := [(0, .ref v0), (3, .int v3)]) (st' := [.ref v0]) rfl ?_
        refine x_gQ e rfl rfl fd_12_184 rfl (fun z4 e => ?_)
        refine wp_p (j := J_Y_select) 1 (pc' := 101) (lv' := [(0, .ref v0), (3, .int v3)]) (st' := [.ref v0, .ref z4]) rfl ?_
        refine x_gI e rfl rfl fd_12_185 rfl (fun z5 e => ?_)
        refine wp_p (j := J_Y_select) 1 (pc' := 105) (lv' := [(0, .ref v0), (3, .int v3)]) (st' := [.int v3, .int z5, .ref z4]) rfl ?_
        refine x_sI e rfl rfl (fun g6 e => ?_)
        refine wp_p (j := J_Y_select) 2 (pc' := 108) (lv' := [(0, .ref v0), (3, .int v3)]) (st' := [.ref v0, .ref v0]) rfl ?_
        refine x_gI e rfl rfl fd_12_185 rfl (fun z7 e => ?_)
        refine wp_p (j := J_Y_select) 2 (pc' := 113) (lv' := [(0, .ref v0), (3, .int v3)]) (st' := [.int (z7 + 1), .ref v0]) rfl ?_
        refine x_pI e rfl rfl fw_12_185 rfl (fun g8 e => ?_)
        exact wp_lv (lv' := [(0, .ref v0), (3, .int v3)]) rfl ⟨rfl, rfl, trivial⟩ (x_Y_select_116 e c)
noncomputable def L_Y_select_70 (v0 : Nat) (v3 : Int32) (g : g_S) : Option (g_S) := it (fun s : Int32 × g_S => b_Y_select_70 v0 s.1 s.2) (v3, g)
theorem l_Y_select_70 {L : Nat} {xs : Nat → Int32} {Q : Option Value → ab_H → Prop} {v0 : Nat} {v3 : Int32} {g : g_S} {r : g_S} (e : L_Y_select_70 v0 v3 g = some r) (c : cL_Y_select_70 L xs Q v0 (.inr r)) : wp (ab_ext L xs) J_Y_select 70 [(0, .ref v0), (3, .int v3)] [] (hp g) Q :=
  it_wp (P := fun s : Int32 × g_S => wp (ab_ext L xs) J_Y_select 70 [(0, .ref v0), (3, .int s.1)] [] (hp s.2) Q) (E := fun r => cL_Y_select_70 L xs Q v0 (.inr r)) (fun s out e c => y_Y_select_70 e (by cases out <;> exact c)) e c
theorem L_Y_select_70_eq (v0 : Nat) (v3 : Int32) (g : g_S) : L_Y_select_70 v0 v3 g = itc (b_Y_select_70 v0 v3 g) (fun s => L_Y_select_70 v0 s.1 s.2) := it_eq2 (fun s : Int32 × g_S => b_Y_select_70 v0 s.1 s.2) (v3, g)
noncomputable def M_Y_select (v0 : Nat) (g : g_S) : Option (Int32 × g_S) :=
  c2 (vc g 112 v0 (M_Y_take v0 g)) fun z1 g2 =>
  if z1 < 0 then
    (wI g2 112 v0 100 0).bind fun g3 =>
    (rQ g3 112 v0 2).bind fun z4 =>
    (rI g3 112 v0 3).bind fun z5 =>
    c2 (vc g3 112 v0 (M_Y_readSelector v0 z4 z5 40 1 g3)) fun z6 g7 =>
    if z6 < 0 then
      (rI g7 112 v0 100).bind fun z8 =>
      (rI g7 112 v0 3).bind fun z9 =>
      if z8 < z9 then
        (rI g7 112 v0 100).bind fun z10 =>
        (M_Y_wrong z10 g7).bind fun z11 =>
        some (z11, g7)
      else
        (wI g7 112 v0 185 0).bind fun g12 =>
        (L_Y_select_70 v0 0 g12).bind <| fun g15 =>
        (rI g15 112 v0 185).bind fun z16 =>
        some (z16, g15)
    else
      (M_Y_wrong z6 g7).bind fun z17 =>
      some (z17, g7)
  else
    (M_Y_wrong z1 g2).bind fun z18 =>
    some (z18, g2)
set_option maxRecDepth 20000 in
theorem d_Y_select {L : Nat} {xs : Nat → Int32} {Q : Option Value → ab_H → Prop} {v0 : Nat} {g : g_S} {out : Int32 × g_S} (e : M_Y_select v0 g = some out) (c : Q (some (.int out.1)) (hp out.2)) : mw (ab_ext L xs) J_Y_select [.ref v0] (hp g) Q := by
  unfold M_Y_select at e
  refine wp_p (j := J_Y_select) 1 (pc' := 1) (lv' := [(0, .ref v0)]) (st' := [.ref v0]) rfl ?_
  refine x_cv2 (As := []) (rest := []) Value.int e rfl rfl rfl rfl rfl rfl (fun h => d_Y_take h ⟨rfl, rfl⟩) (fun z1 g2 e => ?_)
  refine wp_p (j := J_Y_select) 2 (pc' := 6) (lv' := [(1, .int z1), (0, .ref v0)]) (st' := [.int z1]) rfl ?_
  refine z_lt e rfl (fun e => ?_) (fun e => ?_)
  · refine wp_p (j := J_Y_select) 2 (pc' := 16) (lv' := [(1, .int z1), (0, .ref v0)]) (st' := [.int 0, .ref v0]) rfl ?_
    refine x_pI e rfl rfl fw_12_100 rfl (fun g3 e => ?_)
    refine wp_p (j := J_Y_select) 2 (pc' := 21) (lv' := [(1, .int z1), (0, .ref v0)]) (st' := [.ref v0, .ref v0]) rfl ?_
    refine x_gQ e rfl rfl fd_12_2 rfl (fun z4 e => ?_)
    refine wp_p (j := J_Y_select) 1 (pc' := 25) (lv' := [(1, .int z1), (0, .ref v0)]) (st' := [.ref v0, .ref z4, .ref v0]) rfl ?_
    refine x_gI e rfl rfl fd_12_3 rfl (fun z5 e => ?_)
    refine wp_p (j := J_Y_select) 2 (pc' := 31) (lv' := [(1, .int z1), (0, .ref v0)]) (st' := [.int 1, .int 40, .int z5, .ref z4, .ref v0]) rfl ?_
    refine x_cv2 (As := [.ref z4, .int z5, .int 40, .int 1]) (rest := []) Value.int e rfl rfl rfl rfl rfl rfl (fun h => d_Y_readSelector h ⟨rfl, rfl⟩) (fun z6 g7 e => ?_)
    refine wp_p (j := J_Y_select) 2 (pc' := 36) (lv' := [(2, .int z6), (1, .int z1), (0, .ref v0)]) (st' := [.int z6]) rfl ?_
    refine z_lt e rfl (fun e => ?_) (fun e => ?_)
    · refine wp_p (j := J_Y_select) 1 (pc' := 45) (lv' := [(2, .int z6), (1, .int z1), (0, .ref v0)]) (st' := [.ref v0]) rfl ?_
      refine x_gI e rfl rfl fd_12_100 rfl (fun z8 e => ?_)
      refine wp_p (j := J_Y_select) 1 (pc' := 49) (lv' := [(2, .int z6), (1, .int z1), (0, .ref v0)]) (st' := [.ref v0, .int z8]) rfl ?_
      refine x_gI e rfl rfl fd_12_3 rfl (fun z9 e => ?_)
      refine x_ge e rfl (fun e => ?_) (fun e => ?_)
      · refine wp_p (j := J_Y_select) 1 (pc' := 56) (lv' := [(2, .int z6), (1, .int z1), (0, .ref v0)]) (st' := [.ref v0]) rfl ?_
        refine x_gI e rfl rfl fd_12_100 rfl (fun z10 e => ?_)
        refine x_cs1 (As := [.int z10]) (rest := []) Value.int e rfl rfl rfl rfl rfl (fun h => d_Y_wrong h ⟨rfl, rfl⟩) (fun z11 e => ?_)
        have e := Option.some.inj e; subst e; exact wp_iret (ty := .int) rfl rfl rfl c
      · refine wp_p (j := J_Y_select) 2 (pc' := 65) (lv' := [(2, .int z6), (1, .int z1), (0, .ref v0)]) (st' := [.int 0, .ref v0]) rfl ?_
        refine x_pI e rfl rfl fw_12_185 rfl (fun g12 e => ?_)
        refine wp_p (j := J_Y_select) 2 (pc' := 70) (lv' := [(3, .int 0), (2, .int z6), (1, .int z1), (0, .ref v0)]) (st' := []) rfl ?_
        obtain ⟨g15, h14, e⟩ := bd e
        refine wp_lv (lv' := [(0, .ref v0), (3, .int 0)]) rfl ⟨rfl, rfl, trivial⟩ ?_
        refine l_Y_select_70 h14 ?_
        show wp (ab_ext L xs) J_Y_select 126 [(0, .ref v0)] [] (hp g15) Q
        refine wp_p (j := J_Y_select) 1 (pc' := 127) (lv' := [(0, .ref v0)]) (st' := [.ref v0]) rfl ?_
        refine x_gI e rfl rfl fd_12_185 rfl (fun z16 e => ?_)
        have e := Option.some.inj e; subst e; exact wp_iret (ty := .int) rfl rfl rfl c
    · refine wp_p (j := J_Y_select) 1 (pc' := 40) (lv' := [(2, .int z6), (1, .int z1), (0, .ref v0)]) (st' := [.int z6]) rfl ?_
      refine x_cs1 (As := [.int z6]) (rest := []) Value.int e rfl rfl rfl rfl rfl (fun h => d_Y_wrong h ⟨rfl, rfl⟩) (fun z17 e => ?_)
      have e := Option.some.inj e; subst e; exact wp_iret (ty := .int) rfl rfl rfl c
  · refine wp_p (j := J_Y_select) 1 (pc' := 10) (lv' := [(1, .int z1), (0, .ref v0)]) (st' := [.int z1]) rfl ?_
    refine x_cs1 (As := [.int z1]) (rest := []) Value.int e rfl rfl rfl rfl rfl (fun h => d_Y_wrong h ⟨rfl, rfl⟩) (fun z18 e => ?_)
    have e := Option.some.inj e; subst e; exact wp_iret (ty := .int) rfl rfl rfl c
noncomputable def M_Y_found (v0 : Nat) (v1 : Int32) (g : g_S) : Option Int32 :=
  if v1 < 0 then
    some (-1)
  else
    (rI g 112 v0 185).bind fun z1 =>
    if v1 < z1 then
      (rQ g 112 v0 184).bind fun z2 =>
      (aI g 0 z2 v1).bind fun z3 =>
      some z3
    else
      some (-1)
set_option maxRecDepth 20000 in
theorem d_Y_found {L : Nat} {xs : Nat → Int32} {Q : Option Value → ab_H → Prop} {v0 : Nat} {v1 : Int32} {g : g_S} {out : Int32} (e : M_Y_found v0 v1 g = some out) (c : Q (some (.int out)) (hp g)) : mw (ab_ext L xs) J_Y_found [.ref v0, .int v1] (hp g) Q := by
  unfold M_Y_found at e
  refine wp_p (j := J_Y_found) 1 (pc' := 1) (lv' := [(0, .ref v0), (1, .int v1)]) (st' := [.int v1]) rfl ?_
  refine z_lt e rfl (fun e => ?_) (fun e => ?_)
  · refine wp_p (j := J_Y_found) 2 (pc' := 22) (lv' := [(0, .ref v0), (1, .int v1)]) (st' := [.int (-1)]) rfl ?_
    have e := Option.some.inj e; subst e; exact wp_iret (ty := .int) rfl rfl rfl c
  · refine wp_p (j := J_Y_found) 2 (pc' := 6) (lv' := [(0, .ref v0), (1, .int v1)]) (st' := [.ref v0, .int v1]) rfl ?_
    refine x_gI e rfl rfl fd_12_185 rfl (fun z1 e => ?_)
    refine x_lt e rfl (fun e => ?_) (fun e => ?_)
    · refine wp_p (j := J_Y_found) 1 (pc' := 17) (lv' := [(0, .ref v0), (1, .int v1)]) (st' := [.ref v0]) rfl ?_
      refine x_gQ e rfl rfl fd_12_184 rfl (fun z2 e => ?_)
      refine wp_p (j := J_Y_found) 1 (pc' := 21) (lv' := [(0, .ref v0), (1, .int v1)]) (st' := [.int v1, .ref z2]) rfl ?_
      refine x_aI e rfl rfl (fun z3 e => ?_)
      have e := Option.some.inj e; subst e; exact wp_iret (ty := .int) rfl rfl rfl c
    · refine wp_p (j := J_Y_found) 2 (pc' := 22) (lv' := [(0, .ref v0), (1, .int v1)]) (st' := [.int (-1)]) rfl ?_
      have e := Option.some.inj e; subst e; exact wp_iret (ty := .int) rfl rfl rfl c
def cL_Y_blanks_2 (L : Nat) (xs : Nat → Int32) (Q : Option Value → ab_H → Prop) (v0 : Nat) (v2 : Int32) (g : g_S) (out : (Int32) ⊕ (Int32)) : Prop := match out with
  | .inl s => wp (ab_ext L xs) J_Y_blanks 2 [(0, .ref v0), (2, .int v2), (3, .int s)] [] (hp g) Q
  | .inr s => wp (ab_ext L xs) J_Y_blanks 25 [(3, .int s)] [] (hp g) Q
noncomputable def b_Y_blanks_2 (v0 : Nat) (v2 : Int32) (v3 : Int32) (g : g_S) : Option ((Int32) ⊕ (Int32)) :=
  if v3 < v2 then
    (rQ g 112 v0 101).bind fun z1 =>
    (aI g 1 z1 v3).bind fun z2 =>
    (M_Y_isBlank z2 g).bind fun z3 =>
    if z3 = 0 then
      some (.inr v3)
    else
      some (.inl (v3 + 1))
  else
    some (.inr v3)
set_option maxRecDepth 20000 in
theorem y_Y_blanks_2 {L : Nat} {xs : Nat → Int32} {Q : Option Value → ab_H → Prop} {v0 : Nat} {v2 : Int32} {v3 : Int32} {g : g_S} {out : (Int32) ⊕ (Int32)} (e : b_Y_blanks_2 v0 v2 v3 g = some out) (c : cL_Y_blanks_2 L xs Q v0 v2 g out) : wp (ab_ext L xs) J_Y_blanks 2 [(0, .ref v0), (2, .int v2), (3, .int v3)] [] (hp g) Q := by
  unfold b_Y_blanks_2 at e
  refine wp_p (j := J_Y_blanks) 2 (pc' := 4) (lv' := [(0, .ref v0), (2, .int v2), (3, .int v3)]) (st' := [.int v2, .int v3]) rfl ?_
  refine x_ge e rfl (fun e => ?_) (fun e => ?_)
  · refine wp_p (j := J_Y_blanks) 1 (pc' := 8) (lv' := [(0, .ref v0), (2, .int v2), (3, .int v3)]) (st' := [.ref v0]) rfl ?_
    refine x_gQ e rfl rfl fd_12_101 rfl (fun z1 e => ?_)
    refine wp_p (j := J_Y_blanks) 1 (pc' := 12) (lv' := [(0, .ref v0), (2, .int v2), (3, .int v3)]) (st' := [.int v3, .ref z1]) rfl ?_
    refine x_aB e rfl (.inl rfl) rfl (fun z2 e => ?_)
    refine x_cs1 (As := [.int z2]) (rest := []) Value.int e rfl rfl rfl rfl rfl (fun h => d_Y_isBlank h ⟨rfl, rfl⟩) (fun z3 e => ?_)
    refine z_eq e rfl (fun e => ?_) (fun e => ?_)
    · have e := Option.some.inj e; subst e; exact wp_lv (lv' := [(3, .int v3)]) rfl ⟨rfl, trivial⟩ c
    · refine wp_p (j := J_Y_blanks) 2 (pc' := 2) (lv' := [(3, .int (v3 + 1)), (0, .ref v0), (2, .int v2)]) (st' := []) rfl ?_
      have e := Option.some.inj e; subst e; exact wp_lv (lv' := [(0, .ref v0), (2, .int v2), (3, .int (v3 + 1))]) rfl ⟨rfl, rfl, rfl, trivial⟩ c
  · have e := Option.some.inj e; subst e; exact wp_lv (lv' := [(3, .int v3)]) rfl ⟨rfl, trivial⟩ c
noncomputable def L_Y_blanks_2 (v0 : Nat) (v2 : Int32) (v3 : Int32) (g : g_S) : Option (Int32) := it (fun s : Int32 => b_Y_blanks_2 v0 v2 s g) (v3)
theorem l_Y_blanks_2 {L : Nat} {xs : Nat → Int32} {Q : Option Value → ab_H → Prop} {v0 : Nat} {v2 : Int32} {v3 : Int32} {g : g_S} {r : Int32} (e : L_Y_blanks_2 v0 v2 v3 g = some r) (c : cL_Y_blanks_2 L xs Q v0 v2 g (.inr r)) : wp (ab_ext L xs) J_Y_blanks 2 [(0, .ref v0), (2, .int v2), (3, .int v3)] [] (hp g) Q :=
  it_wp (P := fun s : Int32 => wp (ab_ext L xs) J_Y_blanks 2 [(0, .ref v0), (2, .int v2), (3, .int s)] [] (hp g) Q) (E := fun r => cL_Y_blanks_2 L xs Q v0 v2 g (.inr r)) (fun s out e c => y_Y_blanks_2 e (by cases out <;> exact c)) e c
theorem L_Y_blanks_2_eq (v0 : Nat) (v2 : Int32) (v3 : Int32) (g : g_S) : L_Y_blanks_2 v0 v2 v3 g = itc (b_Y_blanks_2 v0 v2 v3 g) (fun s => L_Y_blanks_2 v0 v2 s g) := it_eq2 (fun s : Int32 => b_Y_blanks_2 v0 v2 s g) (v3)
noncomputable def M_Y_blanks (v0 : Nat) (v1 : Int32) (v2 : Int32) (g : g_S) : Option Int32 :=
  (L_Y_blanks_2 v0 v2 v1 g).bind <| fun z3 =>
  some z3
set_option maxRecDepth 20000 in
theorem d_Y_blanks {L : Nat} {xs : Nat → Int32} {Q : Option Value → ab_H → Prop} {v0 : Nat} {v1 : Int32} {v2 : Int32} {g : g_S} {out : Int32} (e : M_Y_blanks v0 v1 v2 g = some out) (c : Q (some (.int out)) (hp g)) : mw (ab_ext L xs) J_Y_blanks [.ref v0, .int v1, .int v2] (hp g) Q := by
  unfold M_Y_blanks at e
  refine wp_p (j := J_Y_blanks) 2 (pc' := 2) (lv' := [(3, .int v1), (0, .ref v0), (1, .int v1), (2, .int v2)]) (st' := []) rfl ?_
  obtain ⟨z3, h2, e⟩ := bd e
  refine wp_lv (lv' := [(0, .ref v0), (2, .int v2), (3, .int v1)]) rfl ⟨rfl, rfl, rfl, trivial⟩ ?_
  refine l_Y_blanks_2 h2 ?_
  show wp (ab_ext L xs) J_Y_blanks 25 [(3, .int z3)] [] (hp g) Q
  refine wp_p (j := J_Y_blanks) 1 (pc' := 26) (lv' := [(3, .int z3)]) (st' := [.int z3]) rfl ?_
  have e := Option.some.inj e; subst e; exact wp_iret (ty := .int) rfl rfl rfl c
noncomputable def M_Y_property (v0 : Int32) (g : g_S) : Option Int64 :=
  if v0 = 0 then
    some 26890226980
  else if v0 = 1 then
    some 19378659
  else if v0 = 2 then
    some 156868923460642
  else if v0 = 3 then
    some 479447085
  else if v0 = 4 then
    some 7995527216
  else if v0 = 5 then
    some 609372642
  else if v0 = 6 then
    some 9048375
  else if v0 = 7 then
    some 679716008
  else if v0 = 8 then
    some 190771
  else if v0 = 9 then
    some 14919041
  else
    some 21020038
set_option maxRecDepth 20000 in
theorem d_Y_property {L : Nat} {xs : Nat → Int32} {Q : Option Value → ab_H → Prop} {v0 : Int32} {g : g_S} {out : Int64} (e : M_Y_property v0 g = some out) (c : Q (some (.long out)) (hp g)) : mw (ab_ext L xs) J_Y_property [.int v0] (hp g) Q := by
  unfold M_Y_property at e
  refine wp_p (j := J_Y_property) 1 (pc' := 1) (lv' := [(0, .int v0)]) (st' := [.int v0]) rfl ?_
  refine x_if e (fun h1 e => ?_) (fun h1 e => ?_)
  · refine x_sw (cst := 0) (pc' := 56) (rest := []) h1 rfl rfl rfl ?_
    refine x_l2 (xl := 26890226980) rfl rfl rfl ?_
    have e := Option.some.inj e; subst e; exact wp_lret rfl rfl c
  refine x_if e (fun h2 e => ?_) (fun h2 e => ?_)
  · refine x_sw (cst := 1) (pc' := 60) (rest := []) h2 rfl rfl rfl ?_
    refine x_l2 (xl := 19378659) rfl rfl rfl ?_
    have e := Option.some.inj e; subst e; exact wp_lret rfl rfl c
  refine x_if e (fun h3 e => ?_) (fun h3 e => ?_)
  · refine x_sw (cst := 2) (pc' := 64) (rest := []) h3 rfl rfl rfl ?_
    refine x_l2 (xl := 156868923460642) rfl rfl rfl ?_
    have e := Option.some.inj e; subst e; exact wp_lret rfl rfl c
  refine x_if e (fun h4 e => ?_) (fun h4 e => ?_)
  · refine x_sw (cst := 3) (pc' := 68) (rest := []) h4 rfl rfl rfl ?_
    refine x_l2 (xl := 479447085) rfl rfl rfl ?_
    have e := Option.some.inj e; subst e; exact wp_lret rfl rfl c
  refine x_if e (fun h5 e => ?_) (fun h5 e => ?_)
  · refine x_sw (cst := 4) (pc' := 72) (rest := []) h5 rfl rfl rfl ?_
    refine x_l2 (xl := 7995527216) rfl rfl rfl ?_
    have e := Option.some.inj e; subst e; exact wp_lret rfl rfl c
  refine x_if e (fun h6 e => ?_) (fun h6 e => ?_)
  · refine x_sw (cst := 5) (pc' := 76) (rest := []) h6 rfl rfl rfl ?_
    refine x_l2 (xl := 609372642) rfl rfl rfl ?_
    have e := Option.some.inj e; subst e; exact wp_lret rfl rfl c
  refine x_if e (fun h7 e => ?_) (fun h7 e => ?_)
  · refine x_sw (cst := 6) (pc' := 80) (rest := []) h7 rfl rfl rfl ?_
    refine x_l2 (xl := 9048375) rfl rfl rfl ?_
    have e := Option.some.inj e; subst e; exact wp_lret rfl rfl c
  refine x_if e (fun h8 e => ?_) (fun h8 e => ?_)
  · refine x_sw (cst := 7) (pc' := 84) (rest := []) h8 rfl rfl rfl ?_
    refine x_l2 (xl := 679716008) rfl rfl rfl ?_
    have e := Option.some.inj e; subst e; exact wp_lret rfl rfl c
  refine x_if e (fun h9 e => ?_) (fun h9 e => ?_)
  · refine x_sw (cst := 8) (pc' := 88) (rest := []) h9 rfl rfl rfl ?_
    refine x_l2 (xl := 190771) rfl rfl rfl ?_
    have e := Option.some.inj e; subst e; exact wp_lret rfl rfl c
  refine x_if e (fun h10 e => ?_) (fun h10 e => ?_)
  · refine x_sw (cst := 9) (pc' := 92) (rest := []) h10 rfl rfl rfl ?_
    refine x_l2 (xl := 14919041) rfl rfl rfl ?_
    have e := Option.some.inj e; subst e; exact wp_lret rfl rfl c
  refine wp_b (pc' := 96) (st' := []) rfl rfl ((ts_d (x := v0) (lo := 0) 10 rfl ⟨h1, h2, h3, h4, h5, h6, h7, h8, h9, h10, trivial⟩).trans rfl) ?_
  refine x_l2 (xl := 21020038) rfl rfl rfl ?_
  have e := Option.some.inj e; subst e; exact wp_lret rfl rfl c
noncomputable def M_Y_wordOf (v0 : Int32) (v1 : Int32) (g : g_S) : Option Int64 :=
  if v0 = 0 then
    if v1 = 0 then
      some 11648386
    else
      if v1 = 1 then
        some 182759881
      else
        if v1 = 2 then
          some 178670
        else
          if v1 = 3 then
            some 791942
          else
            some 0
  else
    if v0 = 9 then
      if v1 = 0 then
        some 661676
      else
        if v1 = 1 then
          some 609892515
        else
          if v1 = 2 then
            some 21241138
          else
            some 0
    else
      if v1 = 0 then
        some 178670
      else
        if v1 = 1 then
          some 661676
        else
          if v1 = 2 then
            some 21241138
          else
            some 0
set_option maxRecDepth 20000 in
theorem d_Y_wordOf {L : Nat} {xs : Nat → Int32} {Q : Option Value → ab_H → Prop} {v0 : Int32} {v1 : Int32} {g : g_S} {out : Int64} (e : M_Y_wordOf v0 v1 g = some out) (c : Q (some (.long out)) (hp g)) : mw (ab_ext L xs) J_Y_wordOf [.int v0, .int v1] (hp g) Q := by
  unfold M_Y_wordOf at e
  refine x_l2 (xl := 661676) rfl rfl rfl ?_
  refine wp_p (j := J_Y_wordOf) 1 (pc' := 4) (lv' := [(2, .long 661676), (0, .int v0), (1, .int v1)]) (st' := []) rfl ?_
  refine x_l2 (xl := 21241138) rfl rfl rfl ?_
  refine wp_p (j := J_Y_wordOf) 1 (pc' := 9) (lv' := [(4, .long 21241138), (2, .long 661676), (0, .int v0), (1, .int v1)]) (st' := []) rfl ?_
  refine x_l2 (xl := 178670) rfl rfl rfl ?_
  refine wp_p (j := J_Y_wordOf) 2 (pc' := 15) (lv' := [(6, .long 178670), (4, .long 21241138), (2, .long 661676), (0, .int v0), (1, .int v1)]) (st' := [.int v0]) rfl ?_
  refine z_ne e rfl (fun e => ?_) (fun e => ?_)
  · refine wp_p (j := J_Y_wordOf) 1 (pc' := 19) (lv' := [(6, .long 178670), (4, .long 21241138), (2, .long 661676), (0, .int v0), (1, .int v1)]) (st' := [.int v1]) rfl ?_
    refine z_ne e rfl (fun e => ?_) (fun e => ?_)
    · refine x_l2 (xl := 11648386) rfl rfl rfl ?_
      refine wp_p (j := J_Y_wordOf) 1 (pc' := 61) (lv' := [(6, .long 178670), (4, .long 21241138), (2, .long 661676), (0, .int v0), (1, .int v1)]) (st' := [.long 11648386]) rfl ?_
      have e := Option.some.inj e; subst e; exact wp_lret rfl rfl c
    · refine wp_p (j := J_Y_wordOf) 2 (pc' := 30) (lv' := [(6, .long 178670), (4, .long 21241138), (2, .long 661676), (0, .int v0), (1, .int v1)]) (st' := [.int 1, .int v1]) rfl ?_
      refine x_ne e rfl (fun e => ?_) (fun e => ?_)
      · refine x_l2 (xl := 182759881) rfl rfl rfl ?_
        refine wp_p (j := J_Y_wordOf) 1 (pc' := 61) (lv' := [(6, .long 178670), (4, .long 21241138), (2, .long 661676), (0, .int v0), (1, .int v1)]) (st' := [.long 182759881]) rfl ?_
        have e := Option.some.inj e; subst e; exact wp_lret rfl rfl c
      · refine wp_p (j := J_Y_wordOf) 2 (pc' := 41) (lv' := [(6, .long 178670), (4, .long 21241138), (2, .long 661676), (0, .int v0), (1, .int v1)]) (st' := [.int 2, .int v1]) rfl ?_
        refine x_ne e rfl (fun e => ?_) (fun e => ?_)
        · refine wp_p (j := J_Y_wordOf) 2 (pc' := 61) (lv' := [(6, .long 178670), (4, .long 21241138), (2, .long 661676), (0, .int v0), (1, .int v1)]) (st' := [.long 178670]) rfl ?_
          have e := Option.some.inj e; subst e; exact wp_lret rfl rfl c
        · refine wp_p (j := J_Y_wordOf) 2 (pc' := 51) (lv' := [(6, .long 178670), (4, .long 21241138), (2, .long 661676), (0, .int v0), (1, .int v1)]) (st' := [.int 3, .int v1]) rfl ?_
          refine x_ne e rfl (fun e => ?_) (fun e => ?_)
          · refine x_l2 (xl := 791942) rfl rfl rfl ?_
            refine wp_p (j := J_Y_wordOf) 1 (pc' := 61) (lv' := [(6, .long 178670), (4, .long 21241138), (2, .long 661676), (0, .int v0), (1, .int v1)]) (st' := [.long 791942]) rfl ?_
            have e := Option.some.inj e; subst e; exact wp_lret rfl rfl c
          · refine wp_p (j := J_Y_wordOf) 1 (pc' := 61) (lv' := [(6, .long 178670), (4, .long 21241138), (2, .long 661676), (0, .int v0), (1, .int v1)]) (st' := [.long 0]) rfl ?_
            have e := Option.some.inj e; subst e; exact wp_lret rfl rfl c
  · refine wp_p (j := J_Y_wordOf) 2 (pc' := 65) (lv' := [(6, .long 178670), (4, .long 21241138), (2, .long 661676), (0, .int v0), (1, .int v1)]) (st' := [.int 9, .int v0]) rfl ?_
    refine x_ne e rfl (fun e => ?_) (fun e => ?_)
    · refine wp_p (j := J_Y_wordOf) 1 (pc' := 69) (lv' := [(6, .long 178670), (4, .long 21241138), (2, .long 661676), (0, .int v0), (1, .int v1)]) (st' := [.int v1]) rfl ?_
      refine z_ne e rfl (fun e => ?_) (fun e => ?_)
      · refine wp_p (j := J_Y_wordOf) 2 (pc' := 98) (lv' := [(6, .long 178670), (4, .long 21241138), (2, .long 661676), (0, .int v0), (1, .int v1)]) (st' := [.long 661676]) rfl ?_
        have e := Option.some.inj e; subst e; exact wp_lret rfl rfl c
      · refine wp_p (j := J_Y_wordOf) 2 (pc' := 78) (lv' := [(6, .long 178670), (4, .long 21241138), (2, .long 661676), (0, .int v0), (1, .int v1)]) (st' := [.int 1, .int v1]) rfl ?_
        refine x_ne e rfl (fun e => ?_) (fun e => ?_)
        · refine x_l2 (xl := 609892515) rfl rfl rfl ?_
          refine wp_p (j := J_Y_wordOf) 1 (pc' := 98) (lv' := [(6, .long 178670), (4, .long 21241138), (2, .long 661676), (0, .int v0), (1, .int v1)]) (st' := [.long 609892515]) rfl ?_
          have e := Option.some.inj e; subst e; exact wp_lret rfl rfl c
        · refine wp_p (j := J_Y_wordOf) 2 (pc' := 89) (lv' := [(6, .long 178670), (4, .long 21241138), (2, .long 661676), (0, .int v0), (1, .int v1)]) (st' := [.int 2, .int v1]) rfl ?_
          refine x_ne e rfl (fun e => ?_) (fun e => ?_)
          · refine wp_p (j := J_Y_wordOf) 2 (pc' := 98) (lv' := [(6, .long 178670), (4, .long 21241138), (2, .long 661676), (0, .int v0), (1, .int v1)]) (st' := [.long 21241138]) rfl ?_
            have e := Option.some.inj e; subst e; exact wp_lret rfl rfl c
          · refine wp_p (j := J_Y_wordOf) 1 (pc' := 98) (lv' := [(6, .long 178670), (4, .long 21241138), (2, .long 661676), (0, .int v0), (1, .int v1)]) (st' := [.long 0]) rfl ?_
            have e := Option.some.inj e; subst e; exact wp_lret rfl rfl c
    · refine wp_p (j := J_Y_wordOf) 1 (pc' := 100) (lv' := [(6, .long 178670), (4, .long 21241138), (2, .long 661676), (0, .int v0), (1, .int v1)]) (st' := [.int v1]) rfl ?_
      refine z_ne e rfl (fun e => ?_) (fun e => ?_)
      · refine wp_p (j := J_Y_wordOf) 2 (pc' := 128) (lv' := [(6, .long 178670), (4, .long 21241138), (2, .long 661676), (0, .int v0), (1, .int v1)]) (st' := [.long 178670]) rfl ?_
        have e := Option.some.inj e; subst e; exact wp_lret rfl rfl c
      · refine wp_p (j := J_Y_wordOf) 2 (pc' := 110) (lv' := [(6, .long 178670), (4, .long 21241138), (2, .long 661676), (0, .int v0), (1, .int v1)]) (st' := [.int 1, .int v1]) rfl ?_
        refine x_ne e rfl (fun e => ?_) (fun e => ?_)
        · refine wp_p (j := J_Y_wordOf) 2 (pc' := 128) (lv' := [(6, .long 178670), (4, .long 21241138), (2, .long 661676), (0, .int v0), (1, .int v1)]) (st' := [.long 661676]) rfl ?_
          have e := Option.some.inj e; subst e; exact wp_lret rfl rfl c
        · refine wp_p (j := J_Y_wordOf) 2 (pc' := 119) (lv' := [(6, .long 178670), (4, .long 21241138), (2, .long 661676), (0, .int v0), (1, .int v1)]) (st' := [.int 2, .int v1]) rfl ?_
          refine x_ne e rfl (fun e => ?_) (fun e => ?_)
          · refine wp_p (j := J_Y_wordOf) 2 (pc' := 128) (lv' := [(6, .long 178670), (4, .long 21241138), (2, .long 661676), (0, .int v0), (1, .int v1)]) (st' := [.long 21241138]) rfl ?_
            have e := Option.some.inj e; subst e; exact wp_lret rfl rfl c
          · refine wp_p (j := J_Y_wordOf) 1 (pc' := 128) (lv' := [(6, .long 178670), (4, .long 21241138), (2, .long 661676), (0, .int v0), (1, .int v1)]) (st' := [.long 0]) rfl ?_
            have e := Option.some.inj e; subst e; exact wp_lret rfl rfl c
def cL_Y_readValue_13 (L : Nat) (xs : Nat → Int32) (Q : Option Value → ab_H → Prop) (v0 : Nat) (v1 : Int32) (v2 : Int32) (v3 : Int32) (g : g_S) (out : (Int32) ⊕ (Int32)) : Prop := match out with
  | .inl s => wp (ab_ext L xs) J_Y_readValue 13 [(0, .ref v0), (1, .int v1), (2, .int v2), (3, .int v3), (4, .int s)] [] (hp g) Q
  | .inr s => wp (ab_ext L xs) J_Y_readValue 38 [(0, .ref v0), (1, .int v1), (2, .int v2), (4, .int s)] [] (hp g) Q
noncomputable def b_Y_readValue_13 (v0 : Nat) (v1 : Int32) (v2 : Int32) (v3 : Int32) (v4 : Int32) (g : g_S) : Option ((Int32) ⊕ (Int32)) :=
  if v4 < v3 then
    (rQ g 112 v0 101).bind fun z1 =>
    (aI g 1 z1 v4).bind fun z2 =>
    (M_Y_isSmall z2 g).bind fun z3 =>
    if z3 = 0 then
      some (.inr v4)
    else
      some (.inl (v4 + 1))
  else
    some (.inr v4)
set_option maxRecDepth 20000 in
theorem y_Y_readValue_13 {L : Nat} {xs : Nat → Int32} {Q : Option Value → ab_H → Prop} {v0 : Nat} {v1 : Int32} {v2 : Int32} {v3 : Int32} {v4 : Int32} {g : g_S} {out : (Int32) ⊕ (Int32)} (e : b_Y_readValue_13 v0 v1 v2 v3 v4 g = some out) (c : cL_Y_readValue_13 L xs Q v0 v1 v2 v3 g out) : wp (ab_ext L xs) J_Y_readValue 13 [(0, .ref v0), (1, .int v1), (2, .int v2), (3, .int v3), (4, .int v4)] [] (hp g) Q := by
  unfold b_Y_readValue_13 at e
  refine wp_p (j := J_Y_readValue) 2 (pc' := 16) (lv' := [(0, .ref v0), (1, .int v1), (2, .int v2), (3, .int v3), (4, .int v4)]) (st' := [.int v3, .int v4]) rfl ?_
  refine x_ge e rfl (fun e => ?_) (fun e => ?_)
  · refine wp_p (j := J_Y_readValue) 1 (pc' := 20) (lv' := [(0, .ref v0), (1, .int v1), (2, .int v2), (3, .int v3), (4, .int v4)]) (st' := [.ref v0]) rfl ?_
    refine x_gQ e rfl rfl fd_12_101 rfl (fun z1 e => ?_)
    refine wp_p (j := J_Y_readValue) 1 (pc' := 25) (lv' := [(0, .ref v0), (1, .int v1), (2, .int v2), (3, .int v3), (4, .int v4)]) (st' := [.int v4, .ref z1]) rfl ?_
    refine x_aB e rfl (.inl rfl) rfl (fun z2 e => ?_)
    refine x_cs1 (As := [.int z2]) (rest := []) Value.int e rfl rfl rfl rfl rfl (fun h => d_Y_isSmall h ⟨rfl, rfl⟩) (fun z3 e => ?_)
    refine z_eq e rfl (fun e => ?_) (fun e => ?_)
    · have e := Option.some.inj e; subst e; exact wp_lv (lv' := [(0, .ref v0), (1, .int v1), (2, .int v2), (4, .int v4)]) rfl ⟨rfl, rfl, rfl, rfl, trivial⟩ c
    · refine wp_p (j := J_Y_readValue) 2 (pc' := 13) (lv' := [(4, .int (v4 + 1)), (0, .ref v0), (1, .int v1), (2, .int v2), (3, .int v3)]) (st' := []) rfl ?_
      have e := Option.some.inj e; subst e; exact wp_lv (lv' := [(0, .ref v0), (1, .int v1), (2, .int v2), (3, .int v3), (4, .int (v4 + 1))]) rfl ⟨rfl, rfl, rfl, rfl, rfl, trivial⟩ c
  · have e := Option.some.inj e; subst e; exact wp_lv (lv' := [(0, .ref v0), (1, .int v1), (2, .int v2), (4, .int v4)]) rfl ⟨rfl, rfl, rfl, rfl, trivial⟩ c
noncomputable def L_Y_readValue_13 (v0 : Nat) (v1 : Int32) (v2 : Int32) (v3 : Int32) (v4 : Int32) (g : g_S) : Option (Int32) := it (fun s : Int32 => b_Y_readValue_13 v0 v1 v2 v3 s g) (v4)
theorem l_Y_readValue_13 {L : Nat} {xs : Nat → Int32} {Q : Option Value → ab_H → Prop} {v0 : Nat} {v1 : Int32} {v2 : Int32} {v3 : Int32} {v4 : Int32} {g : g_S} {r : Int32} (e : L_Y_readValue_13 v0 v1 v2 v3 v4 g = some r) (c : cL_Y_readValue_13 L xs Q v0 v1 v2 v3 g (.inr r)) : wp (ab_ext L xs) J_Y_readValue 13 [(0, .ref v0), (1, .int v1), (2, .int v2), (3, .int v3), (4, .int v4)] [] (hp g) Q :=
  it_wp (P := fun s : Int32 => wp (ab_ext L xs) J_Y_readValue 13 [(0, .ref v0), (1, .int v1), (2, .int v2), (3, .int v3), (4, .int s)] [] (hp g) Q) (E := fun r => cL_Y_readValue_13 L xs Q v0 v1 v2 v3 g (.inr r)) (fun s out e c => y_Y_readValue_13 e (by cases out <;> exact c)) e c
theorem L_Y_readValue_13_eq (v0 : Nat) (v1 : Int32) (v2 : Int32) (v3 : Int32) (v4 : Int32) (g : g_S) : L_Y_readValue_13 v0 v1 v2 v3 v4 g = itc (b_Y_readValue_13 v0 v1 v2 v3 v4 g) (fun s => L_Y_readValue_13 v0 v1 v2 v3 s g) := it_eq2 (fun s : Int32 => b_Y_readValue_13 v0 v1 v2 v3 s g) (v4)
def cL_Y_readValue_47 (L : Nat) (xs : Nat → Int32) (Q : Option Value → ab_H → Prop) (v0 : Nat) (v1 : Int32) (v2 : Int32) (v4 : Int32) (g : g_S) (out : (Int32) ⊕ ((Int32) ⊕ (Unit))) : Prop := match out with
  | .inl s => wp (ab_ext L xs) J_Y_readValue 47 [(0, .ref v0), (1, .int v1), (2, .int v2), (4, .int v4), (5, .int s)] [] (hp g) Q
  | .inr (.inl s) => wp (ab_ext L xs) J_Y_readValue 93 [(5, .int s)] [] (hp g) Q
  | .inr (.inr s) => wp (ab_ext L xs) J_Y_readValue 102 [] [] (hp g) Q
noncomputable def b_Y_readValue_47 (v0 : Nat) (v1 : Int32) (v2 : Int32) (v4 : Int32) (v5 : Int32) (g : g_S) : Option ((Int32) ⊕ ((Int32) ⊕ (Unit))) :=
  (M_Y_wordOf v1 v5 g).bind fun z1 =>
  if (lg_cmp z1 0) = 0 then
    some (.inr (.inr ()))
  else
    (M_Y_wordOf v1 v5 g).bind fun z2 =>
    (M_Y_lengthOf z2 g).bind fun z3 =>
    if z3 = (v4 - v2) then
      (rQ g 112 v0 101).bind fun z4 =>
      (M_Y_wordOf v1 v5 g).bind fun z5 =>
      (M_Y_isWord z4 v2 v4 z5 g).bind fun z6 =>
      if z6 = 0 then
        some (.inl (v5 + 1))
      else
        some (.inr (.inl v5))
    else
      some (.inl (v5 + 1))
set_option maxRecDepth 20000 in
theorem y_Y_readValue_47 {L : Nat} {xs : Nat → Int32} {Q : Option Value → ab_H → Prop} {v0 : Nat} {v1 : Int32} {v2 : Int32} {v4 : Int32} {v5 : Int32} {g : g_S} {out : (Int32) ⊕ ((Int32) ⊕ (Unit))} (e : b_Y_readValue_47 v0 v1 v2 v4 v5 g = some out) (c : cL_Y_readValue_47 L xs Q v0 v1 v2 v4 g out) : wp (ab_ext L xs) J_Y_readValue 47 [(0, .ref v0), (1, .int v1), (2, .int v2), (4, .int v4), (5, .int v5)] [] (hp g) Q := by
  unfold b_Y_readValue_47 at e
  refine wp_p (j := J_Y_readValue) 2 (pc' := 50) (lv' := [(0, .ref v0), (1, .int v1), (2, .int v2), (4, .int v4), (5, .int v5)]) (st' := [.int v5, .int v1]) rfl ?_
  refine x_cs1 (As := [.int v1, .int v5]) (rest := []) Value.long e rfl rfl rfl rfl rfl (fun h => d_Y_wordOf h ⟨rfl, rfl⟩) (fun z1 e => ?_)
  refine wp_p (j := J_Y_readValue) 2 (pc' := 55) (lv' := [(0, .ref v0), (1, .int v1), (2, .int v2), (4, .int v4), (5, .int v5)]) (st' := [.int (lg_cmp z1 0)]) rfl ?_
  refine z_eq e rfl (fun e => ?_) (fun e => ?_)
  · have e := Option.some.inj e; subst e; exact wp_lv (lv' := []) rfl trivial c
  · refine wp_p (j := J_Y_readValue) 2 (pc' := 61) (lv' := [(0, .ref v0), (1, .int v1), (2, .int v2), (4, .int v4), (5, .int v5)]) (st' := [.int v5, .int v1]) rfl ?_
    refine x_cs1 (As := [.int v1, .int v5]) (rest := []) Value.long e rfl rfl rfl rfl rfl (fun h => d_Y_wordOf h ⟨rfl, rfl⟩) (fun z2 e => ?_)
    refine x_cs1 (As := [.long z2]) (rest := []) Value.int e rfl rfl rfl rfl rfl (fun h => d_Y_lengthOf h ⟨rfl, rfl⟩) (fun z3 e => ?_)
    refine wp_p (j := J_Y_readValue) 3 (pc' := 71) (lv' := [(0, .ref v0), (1, .int v1), (2, .int v2), (4, .int v4), (5, .int v5)]) (st' := [.int (v4 - v2), .int z3]) rfl ?_
    refine x_ne e rfl (fun e => ?_) (fun e => ?_)
    · refine wp_p (j := J_Y_readValue) 1 (pc' := 75) (lv' := [(0, .ref v0), (1, .int v1), (2, .int v2), (4, .int v4), (5, .int v5)]) (st' := [.ref v0]) rfl ?_
      refine x_gQ e rfl rfl fd_12_101 rfl (fun z4 e => ?_)
      refine wp_p (j := J_Y_readValue) 4 (pc' := 84) (lv' := [(0, .ref v0), (1, .int v1), (2, .int v2), (4, .int v4), (5, .int v5)]) (st' := [.int v5, .int v1, .int v4, .int v2, .ref z4]) rfl ?_
      refine x_cs1 (As := [.int v1, .int v5]) (rest := [.int v4, .int v2, .ref z4]) Value.long e rfl rfl rfl rfl rfl (fun h => d_Y_wordOf h ⟨rfl, rfl⟩) (fun z5 e => ?_)
      refine x_cs1 (As := [.ref z4, .int v2, .int v4, .long z5]) (rest := []) Value.int e rfl rfl rfl rfl rfl (fun h => d_Y_isWord h ⟨rfl, rfl⟩) (fun z6 e => ?_)
      refine z_eq e rfl (fun e => ?_) (fun e => ?_)
      · refine wp_p (j := J_Y_readValue) 2 (pc' := 47) (lv' := [(5, .int (v5 + 1)), (0, .ref v0), (1, .int v1), (2, .int v2), (4, .int v4)]) (st' := []) rfl ?_
        have e := Option.some.inj e; subst e; exact wp_lv (lv' := [(0, .ref v0), (1, .int v1), (2, .int v2), (4, .int v4), (5, .int (v5 + 1))]) rfl ⟨rfl, rfl, rfl, rfl, rfl, trivial⟩ c
      · have e := Option.some.inj e; subst e; exact wp_lv (lv' := [(5, .int v5)]) rfl ⟨rfl, trivial⟩ c
    · refine wp_p (j := J_Y_readValue) 2 (pc' := 47) (lv' := [(5, .int (v5 + 1)), (0, .ref v0), (1, .int v1), (2, .int v2), (4, .int v4)]) (st' := []) rfl ?_
      have e := Option.some.inj e; subst e; exact wp_lv (lv' := [(0, .ref v0), (1, .int v1), (2, .int v2), (4, .int v4), (5, .int (v5 + 1))]) rfl ⟨rfl, rfl, rfl, rfl, rfl, trivial⟩ c
noncomputable def L_Y_readValue_47 (v0 : Nat) (v1 : Int32) (v2 : Int32) (v4 : Int32) (v5 : Int32) (g : g_S) : Option ((Int32) ⊕ (Unit)) := it (fun s : Int32 => b_Y_readValue_47 v0 v1 v2 v4 s g) (v5)
theorem l_Y_readValue_47 {L : Nat} {xs : Nat → Int32} {Q : Option Value → ab_H → Prop} {v0 : Nat} {v1 : Int32} {v2 : Int32} {v4 : Int32} {v5 : Int32} {g : g_S} {r : (Int32) ⊕ (Unit)} (e : L_Y_readValue_47 v0 v1 v2 v4 v5 g = some r) (c : cL_Y_readValue_47 L xs Q v0 v1 v2 v4 g (.inr r)) : wp (ab_ext L xs) J_Y_readValue 47 [(0, .ref v0), (1, .int v1), (2, .int v2), (4, .int v4), (5, .int v5)] [] (hp g) Q :=
  it_wp (P := fun s : Int32 => wp (ab_ext L xs) J_Y_readValue 47 [(0, .ref v0), (1, .int v1), (2, .int v2), (4, .int v4), (5, .int s)] [] (hp g) Q) (E := fun r => cL_Y_readValue_47 L xs Q v0 v1 v2 v4 g (.inr r)) (fun s out e c => y_Y_readValue_47 e (by cases out <;> exact c)) e c
theorem L_Y_readValue_47_eq (v0 : Nat) (v1 : Int32) (v2 : Int32) (v4 : Int32) (v5 : Int32) (g : g_S) : L_Y_readValue_47 v0 v1 v2 v4 v5 g = itc (b_Y_readValue_47 v0 v1 v2 v4 v5 g) (fun s => L_Y_readValue_47 v0 v1 v2 v4 s g) := it_eq2 (fun s : Int32 => b_Y_readValue_47 v0 v1 v2 v4 s g) (v5)
def cL_Y_readValue_107 (L : Nat) (xs : Nat → Int32) (Q : Option Value → ab_H → Prop) (v0 : Nat) (v1 : Int32) (v2 : Int32) (v3 : Int32) (g : g_S) (out : (Int32 × Int32) ⊕ (Int32 × Int32)) : Prop := match out with
  | .inl s => wp (ab_ext L xs) J_Y_readValue 107 [(0, .ref v0), (1, .int v1), (2, .int v2), (3, .int v3), (4, .int s.1), (5, .int s.2)] [] (hp g) Q
  | .inr s => wp (ab_ext L xs) J_Y_readValue 158 [(0, .ref v0), (1, .int v1), (2, .int v2), (3, .int v3), (4, .int s.1), (5, .int s.2)] [] (hp g) Q
noncomputable def b_Y_readValue_107 (v0 : Nat) (v1 : Int32) (v2 : Int32) (v3 : Int32) (v4 : Int32) (v5 : Int32) (g : g_S) : Option ((Int32 × Int32) ⊕ (Int32 × Int32)) :=
  if v4 < v3 then
    (rQ g 112 v0 101).bind fun z1 =>
    (aI g 1 z1 v4).bind fun z2 =>
    (M_Y_isDigit z2 g).bind fun z3 =>
    if z3 = 0 then
      some (.inr (v4, v5))
    else
      if (v4 - v2) < 4 then
        (rQ g 112 v0 101).bind fun z4 =>
        (aI g 1 z4 v4).bind fun z5 =>
        some (.inl (v4 + 1, ((10 * v5) + z5) - 48))
      else
        some (.inr (v4, v5))
  else
    some (.inr (v4, v5))
set_option maxRecDepth 20000 in
theorem y_Y_readValue_107 {L : Nat} {xs : Nat → Int32} {Q : Option Value → ab_H → Prop} {v0 : Nat} {v1 : Int32} {v2 : Int32} {v3 : Int32} {v4 : Int32} {v5 : Int32} {g : g_S} {out : (Int32 × Int32) ⊕ (Int32 × Int32)} (e : b_Y_readValue_107 v0 v1 v2 v3 v4 v5 g = some out) (c : cL_Y_readValue_107 L xs Q v0 v1 v2 v3 g out) : wp (ab_ext L xs) J_Y_readValue 107 [(0, .ref v0), (1, .int v1), (2, .int v2), (3, .int v3), (4, .int v4), (5, .int v5)] [] (hp g) Q := by
  unfold b_Y_readValue_107 at e
  refine wp_p (j := J_Y_readValue) 2 (pc' := 110) (lv' := [(0, .ref v0), (1, .int v1), (2, .int v2), (3, .int v3), (4, .int v4), (5, .int v5)]) (st' := [.int v3, .int v4]) rfl ?_
  refine x_ge e rfl (fun e => ?_) (fun e => ?_)
  · refine wp_p (j := J_Y_readValue) 1 (pc' := 114) (lv' := [(0, .ref v0), (1, .int v1), (2, .int v2), (3, .int v3), (4, .int v4), (5, .int v5)]) (st' := [.ref v0]) rfl ?_
    refine x_gQ e rfl rfl fd_12_101 rfl (fun z1 e => ?_)
    refine wp_p (j := J_Y_readValue) 1 (pc' := 119) (lv' := [(0, .ref v0), (1, .int v1), (2, .int v2), (3, .int v3), (4, .int v4), (5, .int v5)]) (st' := [.int v4, .ref z1]) rfl ?_
    refine x_aB e rfl (.inl rfl) rfl (fun z2 e => ?_)
    refine x_cs1 (As := [.int z2]) (rest := []) Value.int e rfl rfl rfl rfl rfl (fun h => d_Y_isDigit h ⟨rfl, rfl⟩) (fun z3 e => ?_)
    refine z_eq e rfl (fun e => ?_) (fun e => ?_)
    · have e := Option.some.inj e; subst e; exact wp_lv (lv' := [(0, .ref v0), (1, .int v1), (2, .int v2), (3, .int v3), (4, .int v4), (5, .int v5)]) rfl ⟨rfl, rfl, rfl, rfl, rfl, rfl, trivial⟩ c
    · refine wp_p (j := J_Y_readValue) 4 (pc' := 131) (lv' := [(0, .ref v0), (1, .int v1), (2, .int v2), (3, .int v3), (4, .int v4), (5, .int v5)]) (st' := [.int 4, .int (v4 - v2)]) rfl ?_
      refine x_ge e rfl (fun e => ?_) (fun e => ?_)
      · refine wp_p (j := J_Y_readValue) 4 (pc' := 140) (lv' := [(0, .ref v0), (1, .int v1), (2, .int v2), (3, .int v3), (4, .int v4), (5, .int v5)]) (st' := [.ref v0, .int (10 * v5)]) rfl ?_
        refine x_gQ e rfl rfl fd_12_101 rfl (fun z4 e => ?_)
        refine wp_p (j := J_Y_readValue) 1 (pc' := 145) (lv' := [(0, .ref v0), (1, .int v1), (2, .int v2), (3, .int v3), (4, .int v4), (5, .int v5)]) (st' := [.int v4, .ref z4, .int (10 * v5)]) rfl ?_
        refine x_aB e rfl (.inl rfl) rfl (fun z5 e => ?_)
        refine wp_p (j := J_Y_readValue) 6 (pc' := 107) (lv' := [(4, .int (v4 + 1)), (5, .int (((10 * v5) + z5) - 48)), (0, .ref v0), (1, .int v1), (2, .int v2), (3, .int v3)]) (st' := []) rfl ?_
        have e := Option.some.inj e; subst e; exact wp_lv (lv' := [(0, .ref v0), (1, .int v1), (2, .int v2), (3, .int v3), (4, .int (v4 + 1)), (5, .int (((10 * v5) + z5) - 48))]) rfl ⟨rfl, rfl, rfl, rfl, rfl, rfl, trivial⟩ c
      · have e := Option.some.inj e; subst e; exact wp_lv (lv' := [(0, .ref v0), (1, .int v1), (2, .int v2), (3, .int v3), (4, .int v4), (5, .int v5)]) rfl ⟨rfl, rfl, rfl, rfl, rfl, rfl, trivial⟩ c
  · have e := Option.some.inj e; subst e; exact wp_lv (lv' := [(0, .ref v0), (1, .int v1), (2, .int v2), (3, .int v3), (4, .int v4), (5, .int v5)]) rfl ⟨rfl, rfl, rfl, rfl, rfl, rfl, trivial⟩ c
noncomputable def L_Y_readValue_107 (v0 : Nat) (v1 : Int32) (v2 : Int32) (v3 : Int32) (v4 : Int32) (v5 : Int32) (g : g_S) : Option (Int32 × Int32) := it (fun s : Int32 × Int32 => b_Y_readValue_107 v0 v1 v2 v3 s.1 s.2 g) (v4, v5)
theorem l_Y_readValue_107 {L : Nat} {xs : Nat → Int32} {Q : Option Value → ab_H → Prop} {v0 : Nat} {v1 : Int32} {v2 : Int32} {v3 : Int32} {v4 : Int32} {v5 : Int32} {g : g_S} {r : Int32 × Int32} (e : L_Y_readValue_107 v0 v1 v2 v3 v4 v5 g = some r) (c : cL_Y_readValue_107 L xs Q v0 v1 v2 v3 g (.inr r)) : wp (ab_ext L xs) J_Y_readValue 107 [(0, .ref v0), (1, .int v1), (2, .int v2), (3, .int v3), (4, .int v4), (5, .int v5)] [] (hp g) Q :=
  it_wp (P := fun s : Int32 × Int32 => wp (ab_ext L xs) J_Y_readValue 107 [(0, .ref v0), (1, .int v1), (2, .int v2), (3, .int v3), (4, .int s.1), (5, .int s.2)] [] (hp g) Q) (E := fun r => cL_Y_readValue_107 L xs Q v0 v1 v2 v3 g (.inr r)) (fun s out e c => y_Y_readValue_107 e (by cases out <;> exact c)) e c
theorem L_Y_readValue_107_eq (v0 : Nat) (v1 : Int32) (v2 : Int32) (v3 : Int32) (v4 : Int32) (v5 : Int32) (g : g_S) : L_Y_readValue_107 v0 v1 v2 v3 v4 v5 g = itc (b_Y_readValue_107 v0 v1 v2 v3 v4 v5 g) (fun s => L_Y_readValue_107 v0 v1 v2 v3 s.1 s.2 g) := it_eq2 (fun s : Int32 × Int32 => b_Y_readValue_107 v0 v1 v2 v3 s.1 s.2 g) (v4, v5)
noncomputable def k_Y_readValue_288 (v1 : Int32) (v5 : Int32) (w0 : Int32) (g : g_S) : Option (Int32 × g_S) :=
  if w0 < v5 then
    some ((-1), g)
  else
    if v1 = 8 then
      if 0 < v5 then
        some (v5, g)
      else
        some ((-1), g)
    else
      some (v5, g)
set_option maxRecDepth 20000 in
theorem x_Y_readValue_288 {L : Nat} {xs : Nat → Int32} {Q : Option Value → ab_H → Prop} {v1 : Int32} {v5 : Int32} {w0 : Int32} {g : g_S} {out : Int32 × g_S} (e : k_Y_readValue_288 v1 v5 w0 g = some out) (c : Q (some (.int out.1)) (hp out.2)) : wp (ab_ext L xs) J_Y_readValue 288 [(1, .int v1), (5, .int v5)] [.int w0] (hp g) Q := by
  unfold k_Y_readValue_288 at e
  refine wp_p (j := J_Y_readValue) 3 (pc' := 294) (lv' := [(6, .int w0), (1, .int v1), (5, .int v5)]) (st' := [.int w0, .int v5]) rfl ?_
  refine x_gt e rfl (fun e => ?_) (fun e => ?_)
  · refine wp_p (j := J_Y_readValue) 1 (pc' := 314) (lv' := [(6, .int w0), (1, .int v1), (5, .int v5)]) (st' := [.int (-1)]) rfl ?_
    have e := Option.some.inj e; subst e; exact wp_iret (ty := .int) rfl rfl rfl c
  · refine wp_p (j := J_Y_readValue) 2 (pc' := 300) (lv' := [(6, .int w0), (1, .int v1), (5, .int v5)]) (st' := [.int 8, .int v1]) rfl ?_
    refine x_ne e rfl (fun e => ?_) (fun e => ?_)
    · refine wp_p (j := J_Y_readValue) 1 (pc' := 305) (lv' := [(6, .int w0), (1, .int v1), (5, .int v5)]) (st' := [.int v5]) rfl ?_
      refine z_le e rfl (fun e => ?_) (fun e => ?_)
      · refine wp_p (j := J_Y_readValue) 2 (pc' := 314) (lv' := [(6, .int w0), (1, .int v1), (5, .int v5)]) (st' := [.int v5]) rfl ?_
        have e := Option.some.inj e; subst e; exact wp_iret (ty := .int) rfl rfl rfl c
      · refine wp_p (j := J_Y_readValue) 1 (pc' := 314) (lv' := [(6, .int w0), (1, .int v1), (5, .int v5)]) (st' := [.int (-1)]) rfl ?_
        have e := Option.some.inj e; subst e; exact wp_iret (ty := .int) rfl rfl rfl c
    · refine wp_p (j := J_Y_readValue) 2 (pc' := 314) (lv' := [(6, .int w0), (1, .int v1), (5, .int v5)]) (st' := [.int v5]) rfl ?_
      have e := Option.some.inj e; subst e; exact wp_iret (ty := .int) rfl rfl rfl c
noncomputable def k_Y_readValue_241 (v0 : Nat) (v1 : Int32) (v4 : Int32) (v5 : Int32) (g : g_S) : Option (Int32 × g_S) :=
  (wI g 112 v0 104 v4).bind fun g1 =>
  if v1 < 3 then
    k_Y_readValue_288 v1 v5 63 g1
  else
    if v1 = 5 then
      k_Y_readValue_288 v1 v5 3 g1
    else
      if v1 < 5 then
        k_Y_readValue_288 v1 v5 20 g1
      else
        if v1 < 8 then
          k_Y_readValue_288 v1 v5 96 g1
        else
          k_Y_readValue_288 v1 v5 3 g1
set_option maxRecDepth 20000 in
theorem x_Y_readValue_241 {L : Nat} {xs : Nat → Int32} {Q : Option Value → ab_H → Prop} {v0 : Nat} {v1 : Int32} {v4 : Int32} {v5 : Int32} {g : g_S} {out : Int32 × g_S} (e : k_Y_readValue_241 v0 v1 v4 v5 g = some out) (c : Q (some (.int out.1)) (hp out.2)) : wp (ab_ext L xs) J_Y_readValue 241 [(0, .ref v0), (1, .int v1), (4, .int v4), (5, .int v5)] [] (hp g) Q := by
  unfold k_Y_readValue_241 at e
  refine wp_p (j := J_Y_readValue) 2 (pc' := 244) (lv' := [(0, .ref v0), (1, .int v1), (4, .int v4), (5, .int v5)]) (st' := [.int v4, .ref v0]) rfl ?_
  refine x_pI e rfl rfl fw_12_104 rfl (fun g1 e => ?_)
  refine wp_p (j := J_Y_readValue) 2 (pc' := 249) (lv' := [(0, .ref v0), (1, .int v1), (4, .int v4), (5, .int v5)]) (st' := [.int 3, .int v1]) rfl ?_
  refine x_ge e rfl (fun e => ?_) (fun e => ?_)
  · refine wp_p (j := J_Y_readValue) 2 (pc' := 288) (lv' := [(0, .ref v0), (1, .int v1), (4, .int v4), (5, .int v5)]) (st' := [.int 63]) rfl ?_
    exact wp_lv (lv' := [(1, .int v1), (5, .int v5)]) rfl ⟨rfl, rfl, trivial⟩ (x_Y_readValue_288 e c)
  · refine wp_p (j := J_Y_readValue) 2 (pc' := 259) (lv' := [(0, .ref v0), (1, .int v1), (4, .int v4), (5, .int v5)]) (st' := [.int 5, .int v1]) rfl ?_
    refine x_ne e rfl (fun e => ?_) (fun e => ?_)
    · refine wp_p (j := J_Y_readValue) 2 (pc' := 288) (lv' := [(0, .ref v0), (1, .int v1), (4, .int v4), (5, .int v5)]) (st' := [.int 3]) rfl ?_
      exact wp_lv (lv' := [(1, .int v1), (5, .int v5)]) rfl ⟨rfl, rfl, trivial⟩ (x_Y_readValue_288 e c)
    · refine wp_p (j := J_Y_readValue) 2 (pc' := 268) (lv' := [(0, .ref v0), (1, .int v1), (4, .int v4), (5, .int v5)]) (st' := [.int 5, .int v1]) rfl ?_
      refine x_ge e rfl (fun e => ?_) (fun e => ?_)
      · refine wp_p (j := J_Y_readValue) 2 (pc' := 288) (lv' := [(0, .ref v0), (1, .int v1), (4, .int v4), (5, .int v5)]) (st' := [.int 20]) rfl ?_
        exact wp_lv (lv' := [(1, .int v1), (5, .int v5)]) rfl ⟨rfl, rfl, trivial⟩ (x_Y_readValue_288 e c)
      · refine wp_p (j := J_Y_readValue) 2 (pc' := 279) (lv' := [(0, .ref v0), (1, .int v1), (4, .int v4), (5, .int v5)]) (st' := [.int 8, .int v1]) rfl ?_
        refine x_ge e rfl (fun e => ?_) (fun e => ?_)
        · refine wp_p (j := J_Y_readValue) 2 (pc' := 288) (lv' := [(0, .ref v0), (1, .int v1), (4, .int v4), (5, .int v5)]) (st' := [.int 96]) rfl ?_
          exact wp_lv (lv' := [(1, .int v1), (5, .int v5)]) rfl ⟨rfl, rfl, trivial⟩ (x_Y_readValue_288 e c)
        · refine wp_p (j := J_Y_readValue) 1 (pc' := 288) (lv' := [(0, .ref v0), (1, .int v1), (4, .int v4), (5, .int v5)]) (st' := [.int 3]) rfl ?_
          exact wp_lv (lv' := [(1, .int v1), (5, .int v5)]) rfl ⟨rfl, rfl, trivial⟩ (x_Y_readValue_288 e c)
noncomputable def k_Y_readValue_185 (v0 : Nat) (v1 : Int32) (v3 : Int32) (v4 : Int32) (v5 : Int32) (g : g_S) : Option (Int32 × g_S) :=
  if v1 = 6 then
    if v4 < v3 then
      (rQ g 112 v0 101).bind fun z1 =>
      (aI g 1 z1 v4).bind fun z2 =>
      if z2 = 37 then
        (wI g 112 v0 104 (v4 + 1)).bind fun g3 =>
        if v5 < 1 then
          some ((-1), g3)
        else
          if 100 < v5 then
            some ((-1), g3)
          else
            some (1000 + v5, g3)
      else
        k_Y_readValue_241 v0 v1 v4 v5 g
    else
      k_Y_readValue_241 v0 v1 v4 v5 g
  else
    k_Y_readValue_241 v0 v1 v4 v5 g
set_option maxRecDepth 20000 in
theorem x_Y_readValue_185 {L : Nat} {xs : Nat → Int32} {Q : Option Value → ab_H → Prop} {v0 : Nat} {v1 : Int32} {v3 : Int32} {v4 : Int32} {v5 : Int32} {g : g_S} {out : Int32 × g_S} (e : k_Y_readValue_185 v0 v1 v3 v4 v5 g = some out) (c : Q (some (.int out.1)) (hp out.2)) : wp (ab_ext L xs) J_Y_readValue 185 [(0, .ref v0), (1, .int v1), (3, .int v3), (4, .int v4), (5, .int v5)] [] (hp g) Q := by
  unfold k_Y_readValue_185 at e
  refine wp_p (j := J_Y_readValue) 2 (pc' := 188) (lv' := [(0, .ref v0), (1, .int v1), (3, .int v3), (4, .int v4), (5, .int v5)]) (st' := [.int 6, .int v1]) rfl ?_
  refine x_ne e rfl (fun e => ?_) (fun e => ?_)
  · refine wp_p (j := J_Y_readValue) 2 (pc' := 194) (lv' := [(0, .ref v0), (1, .int v1), (3, .int v3), (4, .int v4), (5, .int v5)]) (st' := [.int v3, .int v4]) rfl ?_
    refine x_ge e rfl (fun e => ?_) (fun e => ?_)
    · refine wp_p (j := J_Y_readValue) 1 (pc' := 198) (lv' := [(0, .ref v0), (1, .int v1), (3, .int v3), (4, .int v4), (5, .int v5)]) (st' := [.ref v0]) rfl ?_
      refine x_gQ e rfl rfl fd_12_101 rfl (fun z1 e => ?_)
      refine wp_p (j := J_Y_readValue) 1 (pc' := 203) (lv' := [(0, .ref v0), (1, .int v1), (3, .int v3), (4, .int v4), (5, .int v5)]) (st' := [.int v4, .ref z1]) rfl ?_
      refine x_aB e rfl (.inl rfl) rfl (fun z2 e => ?_)
      refine wp_p (j := J_Y_readValue) 1 (pc' := 206) (lv' := [(0, .ref v0), (1, .int v1), (3, .int v3), (4, .int v4), (5, .int v5)]) (st' := [.int 37, .int z2]) rfl ?_
      refine x_ne e rfl (fun e => ?_) (fun e => ?_)
      · refine wp_p (j := J_Y_readValue) 4 (pc' := 214) (lv' := [(0, .ref v0), (1, .int v1), (3, .int v3), (4, .int v4), (5, .int v5)]) (st' := [.int (v4 + 1), .ref v0]) rfl ?_
        refine x_pI e rfl rfl fw_12_104 rfl (fun g3 e => ?_)
        refine wp_p (j := J_Y_readValue) 2 (pc' := 220) (lv' := [(0, .ref v0), (1, .int v1), (3, .int v3), (4, .int v4), (5, .int v5)]) (st' := [.int 1, .int v5]) rfl ?_
        refine x_lt e rfl (fun e => ?_) (fun e => ?_)
        · refine wp_p (j := J_Y_readValue) 1 (pc' := 240) (lv' := [(0, .ref v0), (1, .int v1), (3, .int v3), (4, .int v4), (5, .int v5)]) (st' := [.int (-1)]) rfl ?_
          have e := Option.some.inj e; subst e; exact wp_iret (ty := .int) rfl rfl rfl c
        · refine wp_p (j := J_Y_readValue) 2 (pc' := 227) (lv' := [(0, .ref v0), (1, .int v1), (3, .int v3), (4, .int v4), (5, .int v5)]) (st' := [.int 100, .int v5]) rfl ?_
          refine x_gt e rfl (fun e => ?_) (fun e => ?_)
          · refine wp_p (j := J_Y_readValue) 1 (pc' := 240) (lv' := [(0, .ref v0), (1, .int v1), (3, .int v3), (4, .int v4), (5, .int v5)]) (st' := [.int (-1)]) rfl ?_
            have e := Option.some.inj e; subst e; exact wp_iret (ty := .int) rfl rfl rfl c
          · refine wp_p (j := J_Y_readValue) 4 (pc' := 240) (lv' := [(0, .ref v0), (1, .int v1), (3, .int v3), (4, .int v4), (5, .int v5)]) (st' := [.int (1000 + v5)]) rfl ?_
            have e := Option.some.inj e; subst e; exact wp_iret (ty := .int) rfl rfl rfl c
      · exact wp_lv (lv' := [(0, .ref v0), (1, .int v1), (4, .int v4), (5, .int v5)]) rfl ⟨rfl, rfl, rfl, rfl, trivial⟩ (x_Y_readValue_241 e c)
    · exact wp_lv (lv' := [(0, .ref v0), (1, .int v1), (4, .int v4), (5, .int v5)]) rfl ⟨rfl, rfl, rfl, rfl, trivial⟩ (x_Y_readValue_241 e c)
  · exact wp_lv (lv' := [(0, .ref v0), (1, .int v1), (4, .int v4), (5, .int v5)]) rfl ⟨rfl, rfl, rfl, rfl, trivial⟩ (x_Y_readValue_241 e c)
noncomputable def k_Y_readValue_158 (v0 : Nat) (v1 : Int32) (v2 : Int32) (v3 : Int32) (v4 : Int32) (v5 : Int32) (g : g_S) : Option (Int32 × g_S) :=
  if v4 = v2 then
    some ((-1), g)
  else
    if v4 < v3 then
      (rQ g 112 v0 101).bind fun z1 =>
      (aI g 1 z1 v4).bind fun z2 =>
      (M_Y_isDigit z2 g).bind fun z3 =>
      if z3 = 0 then
        k_Y_readValue_185 v0 v1 v3 v4 v5 g
      else
        some ((-1), g)
    else
      k_Y_readValue_185 v0 v1 v3 v4 v5 g
set_option maxRecDepth 20000 in
theorem x_Y_readValue_158 {L : Nat} {xs : Nat → Int32} {Q : Option Value → ab_H → Prop} {v0 : Nat} {v1 : Int32} {v2 : Int32} {v3 : Int32} {v4 : Int32} {v5 : Int32} {g : g_S} {out : Int32 × g_S} (e : k_Y_readValue_158 v0 v1 v2 v3 v4 v5 g = some out) (c : Q (some (.int out.1)) (hp out.2)) : wp (ab_ext L xs) J_Y_readValue 158 [(0, .ref v0), (1, .int v1), (2, .int v2), (3, .int v3), (4, .int v4), (5, .int v5)] [] (hp g) Q := by
  unfold k_Y_readValue_158 at e
  refine wp_p (j := J_Y_readValue) 2 (pc' := 161) (lv' := [(0, .ref v0), (1, .int v1), (2, .int v2), (3, .int v3), (4, .int v4), (5, .int v5)]) (st' := [.int v2, .int v4]) rfl ?_
  refine x_eq e rfl (fun e => ?_) (fun e => ?_)
  · refine wp_p (j := J_Y_readValue) 1 (pc' := 184) (lv' := [(0, .ref v0), (1, .int v1), (2, .int v2), (3, .int v3), (4, .int v4), (5, .int v5)]) (st' := [.int (-1)]) rfl ?_
    have e := Option.some.inj e; subst e; exact wp_iret (ty := .int) rfl rfl rfl c
  · refine wp_p (j := J_Y_readValue) 2 (pc' := 167) (lv' := [(0, .ref v0), (1, .int v1), (2, .int v2), (3, .int v3), (4, .int v4), (5, .int v5)]) (st' := [.int v3, .int v4]) rfl ?_
    refine x_ge e rfl (fun e => ?_) (fun e => ?_)
    · refine wp_p (j := J_Y_readValue) 1 (pc' := 171) (lv' := [(0, .ref v0), (1, .int v1), (2, .int v2), (3, .int v3), (4, .int v4), (5, .int v5)]) (st' := [.ref v0]) rfl ?_
      refine x_gQ e rfl rfl fd_12_101 rfl (fun z1 e => ?_)
      refine wp_p (j := J_Y_readValue) 1 (pc' := 176) (lv' := [(0, .ref v0), (1, .int v1), (2, .int v2), (3, .int v3), (4, .int v4), (5, .int v5)]) (st' := [.int v4, .ref z1]) rfl ?_
      refine x_aB e rfl (.inl rfl) rfl (fun z2 e => ?_)
      refine x_cs1 (As := [.int z2]) (rest := []) Value.int e rfl rfl rfl rfl rfl (fun h => d_Y_isDigit h ⟨rfl, rfl⟩) (fun z3 e => ?_)
      refine z_eq e rfl (fun e => ?_) (fun e => ?_)
      · exact wp_lv (lv' := [(0, .ref v0), (1, .int v1), (3, .int v3), (4, .int v4), (5, .int v5)]) rfl ⟨rfl, rfl, rfl, rfl, rfl, trivial⟩ (x_Y_readValue_185 e c)
      · refine wp_p (j := J_Y_readValue) 1 (pc' := 184) (lv' := [(0, .ref v0), (1, .int v1), (2, .int v2), (3, .int v3), (4, .int v4), (5, .int v5)]) (st' := [.int (-1)]) rfl ?_
        have e := Option.some.inj e; subst e; exact wp_iret (ty := .int) rfl rfl rfl c
    · exact wp_lv (lv' := [(0, .ref v0), (1, .int v1), (3, .int v3), (4, .int v4), (5, .int v5)]) rfl ⟨rfl, rfl, rfl, rfl, rfl, trivial⟩ (x_Y_readValue_185 e c)
noncomputable def k_Y_readValue_38 (v0 : Nat) (v1 : Int32) (v2 : Int32) (v4 : Int32) (g : g_S) : Option (Int32 × g_S) :=
  (wI g 112 v0 104 v4).bind fun g1 =>
  (L_Y_readValue_47 v0 v1 v2 v4 0 g1).bind <|
    us (fun z4 =>
    some (z4, g1))
    (fun _ =>
    some ((-1), g1))
set_option maxRecDepth 20000 in
theorem x_Y_readValue_38 {L : Nat} {xs : Nat → Int32} {Q : Option Value → ab_H → Prop} {v0 : Nat} {v1 : Int32} {v2 : Int32} {v4 : Int32} {g : g_S} {out : Int32 × g_S} (e : k_Y_readValue_38 v0 v1 v2 v4 g = some out) (c : Q (some (.int out.1)) (hp out.2)) : wp (ab_ext L xs) J_Y_readValue 38 [(0, .ref v0), (1, .int v1), (2, .int v2), (4, .int v4)] [] (hp g) Q := by
  unfold k_Y_readValue_38 at e
  refine wp_p (j := J_Y_readValue) 2 (pc' := 41) (lv' := [(0, .ref v0), (1, .int v1), (2, .int v2), (4, .int v4)]) (st' := [.int v4, .ref v0]) rfl ?_
  refine x_pI e rfl rfl fw_12_104 rfl (fun g1 e => ?_)
  refine wp_p (j := J_Y_readValue) 2 (pc' := 47) (lv' := [(5, .int 0), (0, .ref v0), (1, .int v1), (2, .int v2), (4, .int v4)]) (st' := []) rfl ?_
  obtain ⟨s2, h3, e⟩ := bd e
  refine wp_lv (lv' := [(0, .ref v0), (1, .int v1), (2, .int v2), (4, .int v4), (5, .int 0)]) rfl ⟨rfl, rfl, rfl, rfl, rfl, trivial⟩ ?_
  refine l_Y_readValue_47 h3 ?_
  rcases s2 with z4 | _
  · replace e := (us_l e)
    show wp (ab_ext L xs) J_Y_readValue 93 [(5, .int z4)] [] (hp g1) Q
    refine wp_p (j := J_Y_readValue) 1 (pc' := 95) (lv' := [(5, .int z4)]) (st' := [.int z4]) rfl ?_
    have e := Option.some.inj e; subst e; exact wp_iret (ty := .int) rfl rfl rfl c
  · replace e := (us_r e)
    show wp (ab_ext L xs) J_Y_readValue 102 [] [] (hp g1) Q
    refine wp_p (j := J_Y_readValue) 1 (pc' := 103) (lv' := []) (st' := [.int (-1)]) rfl ?_
    have e := Option.some.inj e; subst e; exact wp_iret (ty := .int) rfl rfl rfl c
noncomputable def M_Y_readValue (v0 : Nat) (v1 : Int32) (v2 : Int32) (v3 : Int32) (g : g_S) : Option (Int32 × g_S) :=
  if v1 = 0 then
    (L_Y_readValue_13 v0 v1 v2 v3 v2 g).bind <| fun z3 =>
    k_Y_readValue_38 v0 v1 v2 z3 g
  else
    if 8 < v1 then
      (L_Y_readValue_13 v0 v1 v2 v3 v2 g).bind <| fun z6 =>
      k_Y_readValue_38 v0 v1 v2 z6 g
    else
      (L_Y_readValue_107 v0 v1 v2 v3 v2 0 g).bind <| u2 fun z9 z10 =>
      k_Y_readValue_158 v0 v1 v2 v3 z9 z10 g
set_option maxRecDepth 20000 in
theorem d_Y_readValue {L : Nat} {xs : Nat → Int32} {Q : Option Value → ab_H → Prop} {v0 : Nat} {v1 : Int32} {v2 : Int32} {v3 : Int32} {g : g_S} {out : Int32 × g_S} (e : M_Y_readValue v0 v1 v2 v3 g = some out) (c : Q (some (.int out.1)) (hp out.2)) : mw (ab_ext L xs) J_Y_readValue [.ref v0, .int v1, .int v2, .int v3] (hp g) Q := by
  unfold M_Y_readValue at e
  refine wp_p (j := J_Y_readValue) 3 (pc' := 4) (lv' := [(4, .int v2), (0, .ref v0), (1, .int v1), (2, .int v2), (3, .int v3)]) (st' := [.int v1]) rfl ?_
  refine z_eq e rfl (fun e => ?_) (fun e => ?_)
  · obtain ⟨z3, h2, e⟩ := bd e
    refine wp_lv (lv' := [(0, .ref v0), (1, .int v1), (2, .int v2), (3, .int v3), (4, .int v2)]) rfl ⟨rfl, rfl, rfl, rfl, rfl, trivial⟩ ?_
    refine l_Y_readValue_13 h2 ?_
    show wp (ab_ext L xs) J_Y_readValue 38 [(0, .ref v0), (1, .int v1), (2, .int v2), (4, .int z3)] [] (hp g) Q
    exact wp_lv (lv' := [(0, .ref v0), (1, .int v1), (2, .int v2), (4, .int z3)]) rfl ⟨rfl, rfl, rfl, rfl, trivial⟩ (x_Y_readValue_38 e c)
  · refine wp_p (j := J_Y_readValue) 2 (pc' := 10) (lv' := [(4, .int v2), (0, .ref v0), (1, .int v1), (2, .int v2), (3, .int v3)]) (st' := [.int 8, .int v1]) rfl ?_
    refine x_le e rfl (fun e => ?_) (fun e => ?_)
    · obtain ⟨z6, h5, e⟩ := bd e
      refine wp_lv (lv' := [(0, .ref v0), (1, .int v1), (2, .int v2), (3, .int v3), (4, .int v2)]) rfl ⟨rfl, rfl, rfl, rfl, rfl, trivial⟩ ?_
      refine l_Y_readValue_13 h5 ?_
      show wp (ab_ext L xs) J_Y_readValue 38 [(0, .ref v0), (1, .int v1), (2, .int v2), (4, .int z6)] [] (hp g) Q
      exact wp_lv (lv' := [(0, .ref v0), (1, .int v1), (2, .int v2), (4, .int z6)]) rfl ⟨rfl, rfl, rfl, rfl, trivial⟩ (x_Y_readValue_38 e c)
    · refine wp_p (j := J_Y_readValue) 2 (pc' := 107) (lv' := [(5, .int 0), (4, .int v2), (0, .ref v0), (1, .int v1), (2, .int v2), (3, .int v3)]) (st' := []) rfl ?_
      obtain ⟨s7, h8, e⟩ := bd e
      refine wp_lv (lv' := [(0, .ref v0), (1, .int v1), (2, .int v2), (3, .int v3), (4, .int v2), (5, .int 0)]) rfl ⟨rfl, rfl, rfl, rfl, rfl, rfl, trivial⟩ ?_
      refine l_Y_readValue_107 h8 ?_
      obtain ⟨z9, z10⟩ := s7
      replace e := u2_e e
      show wp (ab_ext L xs) J_Y_readValue 158 [(0, .ref v0), (1, .int v1), (2, .int v2), (3, .int v3), (4, .int z9), (5, .int z10)] [] (hp g) Q
      exact wp_lv (lv' := [(0, .ref v0), (1, .int v1), (2, .int v2), (3, .int v3), (4, .int z9), (5, .int z10)]) rfl ⟨rfl, rfl, rfl, rfl, rfl, rfl, trivial⟩ (x_Y_readValue_158 e c)
def cL_Y_readDeclaration_2 (L : Nat) (xs : Nat → Int32) (Q : Option Value → ab_H → Prop) (v0 : Nat) (v1 : Int32) (v2 : Int32) (g : g_S) (out : (Int32) ⊕ (Int32)) : Prop := match out with
  | .inl s => wp (ab_ext L xs) J_Y_readDeclaration 2 [(0, .ref v0), (1, .int v1), (2, .int v2), (3, .int s)] [] (hp g) Q
  | .inr s => wp (ab_ext L xs) J_Y_readDeclaration 25 [(0, .ref v0), (1, .int v1), (2, .int v2), (3, .int s)] [] (hp g) Q
noncomputable def b_Y_readDeclaration_2 (v0 : Nat) (v1 : Int32) (v2 : Int32) (v3 : Int32) (g : g_S) : Option ((Int32) ⊕ (Int32)) :=
  if v3 < v2 then
    (rQ g 112 v0 101).bind fun z1 =>
    (aI g 1 z1 v3).bind fun z2 =>
    (M_Y_isSmall z2 g).bind fun z3 =>
    if z3 = 0 then
      some (.inr v3)
    else
      some (.inl (v3 + 1))
  else
    some (.inr v3)
set_option maxRecDepth 20000 in
theorem y_Y_readDeclaration_2 {L : Nat} {xs : Nat → Int32} {Q : Option Value → ab_H → Prop} {v0 : Nat} {v1 : Int32} {v2 : Int32} {v3 : Int32} {g : g_S} {out : (Int32) ⊕ (Int32)} (e : b_Y_readDeclaration_2 v0 v1 v2 v3 g = some out) (c : cL_Y_readDeclaration_2 L xs Q v0 v1 v2 g out) : wp (ab_ext L xs) J_Y_readDeclaration 2 [(0, .ref v0), (1, .int v1), (2, .int v2), (3, .int v3)] [] (hp g) Q := by
  unfold b_Y_readDeclaration_2 at e
  refine wp_p (j := J_Y_readDeclaration) 2 (pc' := 4) (lv' := [(0, .ref v0), (1, .int v1), (2, .int v2), (3, .int v3)]) (st' := [.int v2, .int v3]) rfl ?_
  refine x_ge e rfl (fun e => ?_) (fun e => ?_)
  · refine wp_p (j := J_Y_readDeclaration) 1 (pc' := 8) (lv' := [(0, .ref v0), (1, .int v1), (2, .int v2), (3, .int v3)]) (st' := [.ref v0]) rfl ?_
    refine x_gQ e rfl rfl fd_12_101 rfl (fun z1 e => ?_)
    refine wp_p (j := J_Y_readDeclaration) 1 (pc' := 12) (lv' := [(0, .ref v0), (1, .int v1), (2, .int v2), (3, .int v3)]) (st' := [.int v3, .ref z1]) rfl ?_
    refine x_aB e rfl (.inl rfl) rfl (fun z2 e => ?_)
    refine x_cs1 (As := [.int z2]) (rest := []) Value.int e rfl rfl rfl rfl rfl (fun h => d_Y_isSmall h ⟨rfl, rfl⟩) (fun z3 e => ?_)
    refine z_eq e rfl (fun e => ?_) (fun e => ?_)
    · have e := Option.some.inj e; subst e; exact wp_lv (lv' := [(0, .ref v0), (1, .int v1), (2, .int v2), (3, .int v3)]) rfl ⟨rfl, rfl, rfl, rfl, trivial⟩ c
    · refine wp_p (j := J_Y_readDeclaration) 2 (pc' := 2) (lv' := [(3, .int (v3 + 1)), (0, .ref v0), (1, .int v1), (2, .int v2)]) (st' := []) rfl ?_
      have e := Option.some.inj e; subst e; exact wp_lv (lv' := [(0, .ref v0), (1, .int v1), (2, .int v2), (3, .int (v3 + 1))]) rfl ⟨rfl, rfl, rfl, rfl, trivial⟩ c
  · have e := Option.some.inj e; subst e; exact wp_lv (lv' := [(0, .ref v0), (1, .int v1), (2, .int v2), (3, .int v3)]) rfl ⟨rfl, rfl, rfl, rfl, trivial⟩ c
noncomputable def L_Y_readDeclaration_2 (v0 : Nat) (v1 : Int32) (v2 : Int32) (v3 : Int32) (g : g_S) : Option (Int32) := it (fun s : Int32 => b_Y_readDeclaration_2 v0 v1 v2 s g) (v3)
theorem l_Y_readDeclaration_2 {L : Nat} {xs : Nat → Int32} {Q : Option Value → ab_H → Prop} {v0 : Nat} {v1 : Int32} {v2 : Int32} {v3 : Int32} {g : g_S} {r : Int32} (e : L_Y_readDeclaration_2 v0 v1 v2 v3 g = some r) (c : cL_Y_readDeclaration_2 L xs Q v0 v1 v2 g (.inr r)) : wp (ab_ext L xs) J_Y_readDeclaration 2 [(0, .ref v0), (1, .int v1), (2, .int v2), (3, .int v3)] [] (hp g) Q :=
  it_wp (P := fun s : Int32 => wp (ab_ext L xs) J_Y_readDeclaration 2 [(0, .ref v0), (1, .int v1), (2, .int v2), (3, .int s)] [] (hp g) Q) (E := fun r => cL_Y_readDeclaration_2 L xs Q v0 v1 v2 g (.inr r)) (fun s out e c => y_Y_readDeclaration_2 e (by cases out <;> exact c)) e c
theorem L_Y_readDeclaration_2_eq (v0 : Nat) (v1 : Int32) (v2 : Int32) (v3 : Int32) (g : g_S) : L_Y_readDeclaration_2 v0 v1 v2 v3 g = itc (b_Y_readDeclaration_2 v0 v1 v2 v3 g) (fun s => L_Y_readDeclaration_2 v0 v1 v2 s g) := it_eq2 (fun s : Int32 => b_Y_readDeclaration_2 v0 v1 v2 s g) (v3)
def cL_Y_readDeclaration_31 (L : Nat) (xs : Nat → Int32) (Q : Option Value → ab_H → Prop) (v0 : Nat) (v1 : Int32) (v2 : Int32) (v3 : Int32) (g : g_S) (out : (Int32 × Int32) ⊕ (Int32)) : Prop := match out with
  | .inl s => wp (ab_ext L xs) J_Y_readDeclaration 31 [(0, .ref v0), (1, .int v1), (2, .int v2), (3, .int v3), (4, .int s.1), (5, .int s.2)] [] (hp g) Q
  | .inr s => wp (ab_ext L xs) J_Y_readDeclaration 79 [(0, .ref v0), (2, .int v2), (3, .int v3), (4, .int s)] [] (hp g) Q
noncomputable def b_Y_readDeclaration_31 (v0 : Nat) (v1 : Int32) (v2 : Int32) (v3 : Int32) (v4 : Int32) (v5 : Int32) (g : g_S) : Option ((Int32 × Int32) ⊕ (Int32)) :=
  if v5 < 11 then
    (M_Y_property v5 g).bind fun z1 =>
    (M_Y_lengthOf z1 g).bind fun z2 =>
    if z2 = (v3 - v1) then
      (rQ g 112 v0 101).bind fun z3 =>
      (M_Y_property v5 g).bind fun z4 =>
      (M_Y_isWord z3 v1 v3 z4 g).bind fun z5 =>
      if z5 = 0 then
        some (.inl (v4, v5 + 1))
      else
        some (.inl (v5, v5 + 1))
    else
      some (.inl (v4, v5 + 1))
  else
    some (.inr v4)
set_option maxRecDepth 20000 in
theorem y_Y_readDeclaration_31 {L : Nat} {xs : Nat → Int32} {Q : Option Value → ab_H → Prop} {v0 : Nat} {v1 : Int32} {v2 : Int32} {v3 : Int32} {v4 : Int32} {v5 : Int32} {g : g_S} {out : (Int32 × Int32) ⊕ (Int32)} (e : b_Y_readDeclaration_31 v0 v1 v2 v3 v4 v5 g = some out) (c : cL_Y_readDeclaration_31 L xs Q v0 v1 v2 v3 g out) : wp (ab_ext L xs) J_Y_readDeclaration 31 [(0, .ref v0), (1, .int v1), (2, .int v2), (3, .int v3), (4, .int v4), (5, .int v5)] [] (hp g) Q := by
  unfold b_Y_readDeclaration_31 at e
  refine wp_p (j := J_Y_readDeclaration) 2 (pc' := 35) (lv' := [(0, .ref v0), (1, .int v1), (2, .int v2), (3, .int v3), (4, .int v4), (5, .int v5)]) (st' := [.int 11, .int v5]) rfl ?_
  refine x_ge e rfl (fun e => ?_) (fun e => ?_)
  · refine wp_p (j := J_Y_readDeclaration) 1 (pc' := 40) (lv' := [(0, .ref v0), (1, .int v1), (2, .int v2), (3, .int v3), (4, .int v4), (5, .int v5)]) (st' := [.int v5]) rfl ?_
    refine x_cs1 (As := [.int v5]) (rest := []) Value.long e rfl rfl rfl rfl rfl (fun h => d_Y_property h ⟨rfl, rfl⟩) (fun z1 e => ?_)
    refine x_cs1 (As := [.long z1]) (rest := []) Value.int e rfl rfl rfl rfl rfl (fun h => d_Y_lengthOf h ⟨rfl, rfl⟩) (fun z2 e => ?_)
    refine wp_p (j := J_Y_readDeclaration) 3 (pc' := 49) (lv' := [(0, .ref v0), (1, .int v1), (2, .int v2), (3, .int v3), (4, .int v4), (5, .int v5)]) (st' := [.int (v3 - v1), .int z2]) rfl ?_
    refine x_ne e rfl (fun e => ?_) (fun e => ?_)
    · refine wp_p (j := J_Y_readDeclaration) 1 (pc' := 53) (lv' := [(0, .ref v0), (1, .int v1), (2, .int v2), (3, .int v3), (4, .int v4), (5, .int v5)]) (st' := [.ref v0]) rfl ?_
      refine x_gQ e rfl rfl fd_12_101 rfl (fun z3 e => ?_)
      refine wp_p (j := J_Y_readDeclaration) 3 (pc' := 60) (lv' := [(0, .ref v0), (1, .int v1), (2, .int v2), (3, .int v3), (4, .int v4), (5, .int v5)]) (st' := [.int v5, .int v3, .int v1, .ref z3]) rfl ?_
      refine x_cs1 (As := [.int v5]) (rest := [.int v3, .int v1, .ref z3]) Value.long e rfl rfl rfl rfl rfl (fun h => d_Y_property h ⟨rfl, rfl⟩) (fun z4 e => ?_)
      refine x_cs1 (As := [.ref z3, .int v1, .int v3, .long z4]) (rest := []) Value.int e rfl rfl rfl rfl rfl (fun h => d_Y_isWord h ⟨rfl, rfl⟩) (fun z5 e => ?_)
      refine z_eq e rfl (fun e => ?_) (fun e => ?_)
      · refine wp_p (j := J_Y_readDeclaration) 2 (pc' := 31) (lv' := [(5, .int (v5 + 1)), (0, .ref v0), (1, .int v1), (2, .int v2), (3, .int v3), (4, .int v4)]) (st' := []) rfl ?_
        have e := Option.some.inj e; subst e; exact wp_lv (lv' := [(0, .ref v0), (1, .int v1), (2, .int v2), (3, .int v3), (4, .int v4), (5, .int (v5 + 1))]) rfl ⟨rfl, rfl, rfl, rfl, rfl, rfl, trivial⟩ c
      · refine wp_p (j := J_Y_readDeclaration) 4 (pc' := 31) (lv' := [(5, .int (v5 + 1)), (4, .int v5), (0, .ref v0), (1, .int v1), (2, .int v2), (3, .int v3)]) (st' := []) rfl ?_
        have e := Option.some.inj e; subst e; exact wp_lv (lv' := [(0, .ref v0), (1, .int v1), (2, .int v2), (3, .int v3), (4, .int v5), (5, .int (v5 + 1))]) rfl ⟨rfl, rfl, rfl, rfl, rfl, rfl, trivial⟩ c
    · refine wp_p (j := J_Y_readDeclaration) 2 (pc' := 31) (lv' := [(5, .int (v5 + 1)), (0, .ref v0), (1, .int v1), (2, .int v2), (3, .int v3), (4, .int v4)]) (st' := []) rfl ?_
      have e := Option.some.inj e; subst e; exact wp_lv (lv' := [(0, .ref v0), (1, .int v1), (2, .int v2), (3, .int v3), (4, .int v4), (5, .int (v5 + 1))]) rfl ⟨rfl, rfl, rfl, rfl, rfl, rfl, trivial⟩ c
  · have e := Option.some.inj e; subst e; exact wp_lv (lv' := [(0, .ref v0), (2, .int v2), (3, .int v3), (4, .int v4)]) rfl ⟨rfl, rfl, rfl, rfl, trivial⟩ c
noncomputable def L_Y_readDeclaration_31 (v0 : Nat) (v1 : Int32) (v2 : Int32) (v3 : Int32) (v4 : Int32) (v5 : Int32) (g : g_S) : Option (Int32) := it (fun s : Int32 × Int32 => b_Y_readDeclaration_31 v0 v1 v2 v3 s.1 s.2 g) (v4, v5)
theorem l_Y_readDeclaration_31 {L : Nat} {xs : Nat → Int32} {Q : Option Value → ab_H → Prop} {v0 : Nat} {v1 : Int32} {v2 : Int32} {v3 : Int32} {v4 : Int32} {v5 : Int32} {g : g_S} {r : Int32} (e : L_Y_readDeclaration_31 v0 v1 v2 v3 v4 v5 g = some r) (c : cL_Y_readDeclaration_31 L xs Q v0 v1 v2 v3 g (.inr r)) : wp (ab_ext L xs) J_Y_readDeclaration 31 [(0, .ref v0), (1, .int v1), (2, .int v2), (3, .int v3), (4, .int v4), (5, .int v5)] [] (hp g) Q :=
  it_wp (P := fun s : Int32 × Int32 => wp (ab_ext L xs) J_Y_readDeclaration 31 [(0, .ref v0), (1, .int v1), (2, .int v2), (3, .int v3), (4, .int s.1), (5, .int s.2)] [] (hp g) Q) (E := fun r => cL_Y_readDeclaration_31 L xs Q v0 v1 v2 v3 g (.inr r)) (fun s out e c => y_Y_readDeclaration_31 e (by cases out <;> exact c)) e c
theorem L_Y_readDeclaration_31_eq (v0 : Nat) (v1 : Int32) (v2 : Int32) (v3 : Int32) (v4 : Int32) (v5 : Int32) (g : g_S) : L_Y_readDeclaration_31 v0 v1 v2 v3 v4 v5 g = itc (b_Y_readDeclaration_31 v0 v1 v2 v3 v4 v5 g) (fun s => L_Y_readDeclaration_31 v0 v1 v2 v3 s.1 s.2 g) := it_eq2 (fun s : Int32 × Int32 => b_Y_readDeclaration_31 v0 v1 v2 v3 s.1 s.2 g) (v4, v5)
noncomputable def k_Y_readDeclaration_174 (v0 : Nat) (v2 : Int32) (v3 : Int32) (v4 : Int32) (v5 : Int32) (v6 : Int32) (g : g_S) : Option g_S :=
  if v3 < v2 then
    some g
  else
    (rQ g 112 v0 103).bind fun z1 =>
    (aI g 0 z1 v4).bind fun z2 =>
    if v6 < z2 then
      some g
    else
      (rQ g 112 v0 103).bind fun z3 =>
      (sI g z3 v4 v6).bind fun g4 =>
      (rQ g4 112 v0 102).bind fun z5 =>
      (sI g4 z5 v4 v5).bind fun g6 =>
      some g6
set_option maxRecDepth 20000 in
theorem x_Y_readDeclaration_174 {L : Nat} {xs : Nat → Int32} {Q : Option Value → ab_H → Prop} {v0 : Nat} {v2 : Int32} {v3 : Int32} {v4 : Int32} {v5 : Int32} {v6 : Int32} {g : g_S} {out : g_S} (e : k_Y_readDeclaration_174 v0 v2 v3 v4 v5 v6 g = some out) (c : Q none (hp out)) : wp (ab_ext L xs) J_Y_readDeclaration 174 [(0, .ref v0), (2, .int v2), (3, .int v3), (4, .int v4), (5, .int v5), (6, .int v6)] [] (hp g) Q := by
  unfold k_Y_readDeclaration_174 at e
  refine wp_p (j := J_Y_readDeclaration) 2 (pc' := 176) (lv' := [(0, .ref v0), (2, .int v2), (3, .int v3), (4, .int v4), (5, .int v5), (6, .int v6)]) (st' := [.int v2, .int v3]) rfl ?_
  refine x_lt e rfl (fun e => ?_) (fun e => ?_)
  · have e := Option.some.inj e; subst e; exact wp_vret rfl rfl c
  · refine wp_p (j := J_Y_readDeclaration) 1 (pc' := 180) (lv' := [(0, .ref v0), (2, .int v2), (3, .int v3), (4, .int v4), (5, .int v5), (6, .int v6)]) (st' := [.ref v0]) rfl ?_
    refine x_gQ e rfl rfl fd_12_103 rfl (fun z1 e => ?_)
    refine wp_p (j := J_Y_readDeclaration) 1 (pc' := 185) (lv' := [(0, .ref v0), (2, .int v2), (3, .int v3), (4, .int v4), (5, .int v5), (6, .int v6)]) (st' := [.int v4, .ref z1]) rfl ?_
    refine x_aI e rfl rfl (fun z2 e => ?_)
    refine wp_p (j := J_Y_readDeclaration) 1 (pc' := 188) (lv' := [(0, .ref v0), (2, .int v2), (3, .int v3), (4, .int v4), (5, .int v5), (6, .int v6)]) (st' := [.int v6, .int z2]) rfl ?_
    refine x_le e rfl (fun e => ?_) (fun e => ?_)
    · have e := Option.some.inj e; subst e; exact wp_vret rfl rfl c
    · refine wp_p (j := J_Y_readDeclaration) 1 (pc' := 193) (lv' := [(0, .ref v0), (2, .int v2), (3, .int v3), (4, .int v4), (5, .int v5), (6, .int v6)]) (st' := [.ref v0]) rfl ?_
      refine x_gQ e rfl rfl fd_12_103 rfl (fun z3 e => ?_)
      refine wp_p (j := J_Y_readDeclaration) 2 (pc' := 200) (lv' := [(0, .ref v0), (2, .int v2), (3, .int v3), (4, .int v4), (5, .int v5), (6, .int v6)]) (st' := [.int v6, .int v4, .ref z3]) rfl ?_
      refine x_sI e rfl rfl (fun g4 e => ?_)
      refine wp_p (j := J_Y_readDeclaration) 1 (pc' := 202) (lv' := [(0, .ref v0), (2, .int v2), (3, .int v3), (4, .int v4), (5, .int v5), (6, .int v6)]) (st' := [.ref v0]) rfl ?_
      refine x_gQ e rfl rfl fd_12_102 rfl (fun z5 e => ?_)
      refine wp_p (j := J_Y_readDeclaration) 2 (pc' := 209) (lv' := [(0, .ref v0), (2, .int v2), (3, .int v3), (4, .int v4), (5, .int v5), (6, .int v6)]) (st' := [.int v5, .int v4, .ref z5]) rfl ?_
      refine x_sI e rfl rfl (fun g6 e => ?_)
      have e := Option.some.inj e; subst e; exact wp_vret rfl rfl c
noncomputable def k_Y_readDeclaration_25 (v0 : Nat) (v1 : Int32) (v2 : Int32) (v3 : Int32) (g : g_S) : Option g_S :=
  (L_Y_readDeclaration_31 v0 v1 v2 v3 (-1) 0 g).bind <| fun z3 =>
  (vc g 112 v0 (M_Y_blanks v0 v3 v2 g)).bind fun z4 =>
  if z3 = (-1) then
    some g
  else
    if z4 < v2 then
      (rQ g 112 v0 101).bind fun z5 =>
      (aI g 1 z5 z4).bind fun z6 =>
      if z6 = 58 then
        (vc g 112 v0 (M_Y_blanks v0 (z4 + 1) v2 g)).bind fun z7 =>
        c2 (vc g 112 v0 (M_Y_readValue v0 z3 z7 v2 g)) fun z8 g9 =>
        if z8 = (-1) then
          some g9
        else
          (rI g9 112 v0 104).bind fun z10 =>
          (vc g9 112 v0 (M_Y_blanks v0 z10 v2 g9)).bind fun z11 =>
          if z11 < v2 then
            (rQ g9 112 v0 101).bind fun z12 =>
            (aI g9 1 z12 z11).bind fun z13 =>
            if z13 = 33 then
              (vc g9 112 v0 (M_Y_blanks v0 (z11 + 1) v2 g9)).bind fun z14 =>
              k_Y_readDeclaration_174 v0 v2 z14 z3 z8 2 g9
            else
              k_Y_readDeclaration_174 v0 v2 z11 z3 z8 1 g9
          else
            k_Y_readDeclaration_174 v0 v2 z11 z3 z8 1 g9
      else
        some g
    else
      some g
set_option maxRecDepth 20000 in
theorem x_Y_readDeclaration_25 {L : Nat} {xs : Nat → Int32} {Q : Option Value → ab_H → Prop} {v0 : Nat} {v1 : Int32} {v2 : Int32} {v3 : Int32} {g : g_S} {out : g_S} (e : k_Y_readDeclaration_25 v0 v1 v2 v3 g = some out) (c : Q none (hp out)) : wp (ab_ext L xs) J_Y_readDeclaration 25 [(0, .ref v0), (1, .int v1), (2, .int v2), (3, .int v3)] [] (hp g) Q := by
  unfold k_Y_readDeclaration_25 at e
  refine wp_p (j := J_Y_readDeclaration) 4 (pc' := 31) (lv' := [(5, .int 0), (4, .int (-1)), (0, .ref v0), (1, .int v1), (2, .int v2), (3, .int v3)]) (st' := []) rfl ?_
  obtain ⟨z3, h2, e⟩ := bd e
  refine wp_lv (lv' := [(0, .ref v0), (1, .int v1), (2, .int v2), (3, .int v3), (4, .int (-1)), (5, .int 0)]) rfl ⟨rfl, rfl, rfl, rfl, rfl, rfl, trivial⟩ ?_
  refine l_Y_readDeclaration_31 h2 ?_
  show wp (ab_ext L xs) J_Y_readDeclaration 79 [(0, .ref v0), (2, .int v2), (3, .int v3), (4, .int z3)] [] (hp g) Q
  refine wp_p (j := J_Y_readDeclaration) 3 (pc' := 82) (lv' := [(0, .ref v0), (2, .int v2), (3, .int v3), (4, .int z3)]) (st' := [.int v2, .int v3, .ref v0]) rfl ?_
  refine x_cv1 (As := [.int v3, .int v2]) (rest := []) Value.int e rfl rfl rfl rfl rfl rfl (fun h => d_Y_blanks h ⟨rfl, rfl⟩) (fun z4 e => ?_)
  refine wp_p (j := J_Y_readDeclaration) 3 (pc' := 89) (lv' := [(3, .int z4), (0, .ref v0), (2, .int v2), (4, .int z3)]) (st' := [.int (-1), .int z3]) rfl ?_
  refine x_eq e rfl (fun e => ?_) (fun e => ?_)
  · have e := Option.some.inj e; subst e; exact wp_vret rfl rfl c
  · refine wp_p (j := J_Y_readDeclaration) 2 (pc' := 94) (lv' := [(3, .int z4), (0, .ref v0), (2, .int v2), (4, .int z3)]) (st' := [.int v2, .int z4]) rfl ?_
    refine x_ge e rfl (fun e => ?_) (fun e => ?_)
    · refine wp_p (j := J_Y_readDeclaration) 1 (pc' := 98) (lv' := [(3, .int z4), (0, .ref v0), (2, .int v2), (4, .int z3)]) (st' := [.ref v0]) rfl ?_
      refine x_gQ e rfl rfl fd_12_101 rfl (fun z5 e => ?_)
      refine wp_p (j := J_Y_readDeclaration) 1 (pc' := 102) (lv' := [(3, .int z4), (0, .ref v0), (2, .int v2), (4, .int z3)]) (st' := [.int z4, .ref z5]) rfl ?_
      refine x_aB e rfl (.inl rfl) rfl (fun z6 e => ?_)
      refine wp_p (j := J_Y_readDeclaration) 1 (pc' := 105) (lv' := [(3, .int z4), (0, .ref v0), (2, .int v2), (4, .int z3)]) (st' := [.int 58, .int z6]) rfl ?_
      refine x_eq e rfl (fun e => ?_) (fun e => ?_)
      · refine wp_p (j := J_Y_readDeclaration) 7 (pc' := 117) (lv' := [(3, .int z4), (0, .ref v0), (2, .int v2), (4, .int z3)]) (st' := [.int v2, .int (z4 + 1), .ref v0, .int z3, .ref v0]) rfl ?_
        refine x_cv1 (As := [.int (z4 + 1), .int v2]) (rest := [.int z3, .ref v0]) Value.int e rfl rfl rfl rfl rfl rfl (fun h => d_Y_blanks h ⟨rfl, rfl⟩) (fun z7 e => ?_)
        refine wp_p (j := J_Y_readDeclaration) 1 (pc' := 121) (lv' := [(3, .int z4), (0, .ref v0), (2, .int v2), (4, .int z3)]) (st' := [.int v2, .int z7, .int z3, .ref v0]) rfl ?_
        refine x_cv2 (As := [.int z3, .int z7, .int v2]) (rest := []) Value.int e rfl rfl rfl rfl rfl rfl (fun h => d_Y_readValue h ⟨rfl, rfl⟩) (fun z8 g9 e => ?_)
        refine wp_p (j := J_Y_readDeclaration) 3 (pc' := 129) (lv' := [(5, .int z8), (3, .int z4), (0, .ref v0), (2, .int v2), (4, .int z3)]) (st' := [.int (-1), .int z8]) rfl ?_
        refine x_ne e rfl (fun e => ?_) (fun e => ?_)
        · have e := Option.some.inj e; subst e; exact wp_vret rfl rfl c
        · refine wp_p (j := J_Y_readDeclaration) 2 (pc' := 135) (lv' := [(5, .int z8), (3, .int z4), (0, .ref v0), (2, .int v2), (4, .int z3)]) (st' := [.ref v0, .ref v0]) rfl ?_
          refine x_gI e rfl rfl fd_12_104 rfl (fun z10 e => ?_)
          refine wp_p (j := J_Y_readDeclaration) 1 (pc' := 139) (lv' := [(5, .int z8), (3, .int z4), (0, .ref v0), (2, .int v2), (4, .int z3)]) (st' := [.int v2, .int z10, .ref v0]) rfl ?_
          refine x_cv1 (As := [.int z10, .int v2]) (rest := []) Value.int e rfl rfl rfl rfl rfl rfl (fun h => d_Y_blanks h ⟨rfl, rfl⟩) (fun z11 e => ?_)
          refine wp_p (j := J_Y_readDeclaration) 5 (pc' := 148) (lv' := [(6, .int 1), (3, .int z11), (5, .int z8), (0, .ref v0), (2, .int v2), (4, .int z3)]) (st' := [.int v2, .int z11]) rfl ?_
          refine x_ge e rfl (fun e => ?_) (fun e => ?_)
          · refine wp_p (j := J_Y_readDeclaration) 1 (pc' := 152) (lv' := [(6, .int 1), (3, .int z11), (5, .int z8), (0, .ref v0), (2, .int v2), (4, .int z3)]) (st' := [.ref v0]) rfl ?_
            refine x_gQ e rfl rfl fd_12_101 rfl (fun z12 e => ?_)
            refine wp_p (j := J_Y_readDeclaration) 1 (pc' := 156) (lv' := [(6, .int 1), (3, .int z11), (5, .int z8), (0, .ref v0), (2, .int v2), (4, .int z3)]) (st' := [.int z11, .ref z12]) rfl ?_
            refine x_aB e rfl (.inl rfl) rfl (fun z13 e => ?_)
            refine wp_p (j := J_Y_readDeclaration) 1 (pc' := 159) (lv' := [(6, .int 1), (3, .int z11), (5, .int z8), (0, .ref v0), (2, .int v2), (4, .int z3)]) (st' := [.int 33, .int z13]) rfl ?_
            refine x_ne e rfl (fun e => ?_) (fun e => ?_)
            · refine wp_p (j := J_Y_readDeclaration) 7 (pc' := 170) (lv' := [(6, .int 2), (3, .int z11), (5, .int z8), (0, .ref v0), (2, .int v2), (4, .int z3)]) (st' := [.int v2, .int (z11 + 1), .ref v0]) rfl ?_
              refine x_cv1 (As := [.int (z11 + 1), .int v2]) (rest := []) Value.int e rfl rfl rfl rfl rfl rfl (fun h => d_Y_blanks h ⟨rfl, rfl⟩) (fun z14 e => ?_)
              refine wp_p (j := J_Y_readDeclaration) 1 (pc' := 174) (lv' := [(3, .int z14), (6, .int 2), (5, .int z8), (0, .ref v0), (2, .int v2), (4, .int z3)]) (st' := []) rfl ?_
              exact wp_lv (lv' := [(0, .ref v0), (2, .int v2), (3, .int z14), (4, .int z3), (5, .int z8), (6, .int 2)]) rfl ⟨rfl, rfl, rfl, rfl, rfl, rfl, trivial⟩ (x_Y_readDeclaration_174 e c)
            · exact wp_lv (lv' := [(0, .ref v0), (2, .int v2), (3, .int z11), (4, .int z3), (5, .int z8), (6, .int 1)]) rfl ⟨rfl, rfl, rfl, rfl, rfl, rfl, trivial⟩ (x_Y_readDeclaration_174 e c)
          · exact wp_lv (lv' := [(0, .ref v0), (2, .int v2), (3, .int z11), (4, .int z3), (5, .int z8), (6, .int 1)]) rfl ⟨rfl, rfl, rfl, rfl, rfl, rfl, trivial⟩ (x_Y_readDeclaration_174 e c)
      · have e := Option.some.inj e; subst e; exact wp_vret rfl rfl c
    · have e := Option.some.inj e; subst e; exact wp_vret rfl rfl c
noncomputable def M_Y_readDeclaration (v0 : Nat) (v1 : Int32) (v2 : Int32) (g : g_S) : Option g_S :=
  (L_Y_readDeclaration_2 v0 v1 v2 v1 g).bind <| fun z3 =>
  k_Y_readDeclaration_25 v0 v1 v2 z3 g
set_option maxRecDepth 20000 in
theorem d_Y_readDeclaration {L : Nat} {xs : Nat → Int32} {Q : Option Value → ab_H → Prop} {v0 : Nat} {v1 : Int32} {v2 : Int32} {g : g_S} {out : g_S} (e : M_Y_readDeclaration v0 v1 v2 g = some out) (c : Q none (hp out)) : mw (ab_ext L xs) J_Y_readDeclaration [.ref v0, .int v1, .int v2] (hp g) Q := by
  unfold M_Y_readDeclaration at e
  refine wp_p (j := J_Y_readDeclaration) 2 (pc' := 2) (lv' := [(3, .int v1), (0, .ref v0), (1, .int v1), (2, .int v2)]) (st' := []) rfl ?_
  obtain ⟨z3, h2, e⟩ := bd e
  refine wp_lv (lv' := [(0, .ref v0), (1, .int v1), (2, .int v2), (3, .int v1)]) rfl ⟨rfl, rfl, rfl, rfl, trivial⟩ ?_
  refine l_Y_readDeclaration_2 h2 ?_
  show wp (ab_ext L xs) J_Y_readDeclaration 25 [(0, .ref v0), (1, .int v1), (2, .int v2), (3, .int z3)] [] (hp g) Q
  exact wp_lv (lv' := [(0, .ref v0), (1, .int v1), (2, .int v2), (3, .int z3)]) rfl ⟨rfl, rfl, rfl, rfl, trivial⟩ (x_Y_readDeclaration_25 e c)
def cL_Y_readDeclarations_2 (L : Nat) (xs : Nat → Int32) (Q : Option Value → ab_H → Prop) (v0 : Nat) (v1 : Int32) (v2 : Int32) (out : (Int32 × g_S) ⊕ (g_S)) : Prop := match out with
  | .inl s => wp (ab_ext L xs) J_Y_readDeclarations 2 [(0, .ref v0), (1, .int v1), (2, .int v2), (3, .int s.1)] [] (hp s.2) Q
  | .inr s => wp (ab_ext L xs) J_Y_readDeclarations 21 [(0, .ref v0), (1, .int v1), (2, .int v2)] [] (hp s) Q
noncomputable def b_Y_readDeclarations_2 (v0 : Nat) (v1 : Int32) (v2 : Int32) (v3 : Int32) (g : g_S) : Option ((Int32 × g_S) ⊕ (g_S)) :=
  if v3 < 11 then
    (rQ g 112 v0 103).bind fun z1 =>
    (sI g z1 v3 0).bind fun g2 =>
    some (.inl (v3 + 1, g2))
  else
    some (.inr g)
set_option maxRecDepth 20000 in
theorem y_Y_readDeclarations_2 {L : Nat} {xs : Nat → Int32} {Q : Option Value → ab_H → Prop} {v0 : Nat} {v1 : Int32} {v2 : Int32} {v3 : Int32} {g : g_S} {out : (Int32 × g_S) ⊕ (g_S)} (e : b_Y_readDeclarations_2 v0 v1 v2 v3 g = some out) (c : cL_Y_readDeclarations_2 L xs Q v0 v1 v2 out) : wp (ab_ext L xs) J_Y_readDeclarations 2 [(0, .ref v0), (1, .int v1), (2, .int v2), (3, .int v3)] [] (hp g) Q := by
  unfold b_Y_readDeclarations_2 at e
  refine wp_p (j := J_Y_readDeclarations) 2 (pc' := 5) (lv' := [(0, .ref v0), (1, .int v1), (2, .int v2), (3, .int v3)]) (st' := [.int 11, .int v3]) rfl ?_
  refine x_ge e rfl (fun e => ?_) (fun e => ?_)
  · refine wp_p (j := J_Y_readDeclarations) 1 (pc' := 9) (lv' := [(0, .ref v0), (1, .int v1), (2, .int v2), (3, .int v3)]) (st' := [.ref v0]) rfl ?_
    refine x_gQ e rfl rfl fd_12_103 rfl (fun z1 e => ?_)
    refine wp_p (j := J_Y_readDeclarations) 2 (pc' := 14) (lv' := [(0, .ref v0), (1, .int v1), (2, .int v2), (3, .int v3)]) (st' := [.int 0, .int v3, .ref z1]) rfl ?_
    refine x_sI e rfl rfl (fun g2 e => ?_)
    refine wp_p (j := J_Y_readDeclarations) 2 (pc' := 2) (lv' := [(3, .int (v3 + 1)), (0, .ref v0), (1, .int v1), (2, .int v2)]) (st' := []) rfl ?_
    have e := Option.some.inj e; subst e; exact wp_lv (lv' := [(0, .ref v0), (1, .int v1), (2, .int v2), (3, .int (v3 + 1))]) rfl ⟨rfl, rfl, rfl, rfl, trivial⟩ c
  · have e := Option.some.inj e; subst e; exact wp_lv (lv' := [(0, .ref v0), (1, .int v1), (2, .int v2)]) rfl ⟨rfl, rfl, rfl, trivial⟩ c
noncomputable def L_Y_readDeclarations_2 (v0 : Nat) (v1 : Int32) (v2 : Int32) (v3 : Int32) (g : g_S) : Option (g_S) := it (fun s : Int32 × g_S => b_Y_readDeclarations_2 v0 v1 v2 s.1 s.2) (v3, g)
theorem l_Y_readDeclarations_2 {L : Nat} {xs : Nat → Int32} {Q : Option Value → ab_H → Prop} {v0 : Nat} {v1 : Int32} {v2 : Int32} {v3 : Int32} {g : g_S} {r : g_S} (e : L_Y_readDeclarations_2 v0 v1 v2 v3 g = some r) (c : cL_Y_readDeclarations_2 L xs Q v0 v1 v2 (.inr r)) : wp (ab_ext L xs) J_Y_readDeclarations 2 [(0, .ref v0), (1, .int v1), (2, .int v2), (3, .int v3)] [] (hp g) Q :=
  it_wp (P := fun s : Int32 × g_S => wp (ab_ext L xs) J_Y_readDeclarations 2 [(0, .ref v0), (1, .int v1), (2, .int v2), (3, .int s.1)] [] (hp s.2) Q) (E := fun r => cL_Y_readDeclarations_2 L xs Q v0 v1 v2 (.inr r)) (fun s out e c => y_Y_readDeclarations_2 e (by cases out <;> exact c)) e c
theorem L_Y_readDeclarations_2_eq (v0 : Nat) (v1 : Int32) (v2 : Int32) (v3 : Int32) (g : g_S) : L_Y_readDeclarations_2 v0 v1 v2 v3 g = itc (b_Y_readDeclarations_2 v0 v1 v2 v3 g) (fun s => L_Y_readDeclarations_2 v0 v1 v2 s.1 s.2) := it_eq2 (fun s : Int32 × g_S => b_Y_readDeclarations_2 v0 v1 v2 s.1 s.2) (v3, g)
def cL_Y_readDeclarations_31 (L : Nat) (xs : Nat → Int32) (Q : Option Value → ab_H → Prop) (v0 : Nat) (v2 : Int32) (v3 : Int32) (g : g_S) (out : (Int32) ⊕ (Int32)) : Prop := match out with
  | .inl s => wp (ab_ext L xs) J_Y_readDeclarations 31 [(0, .ref v0), (2, .int v2), (3, .int v3), (4, .int s)] [] (hp g) Q
  | .inr s => wp (ab_ext L xs) J_Y_readDeclarations 55 [(0, .ref v0), (2, .int v2), (3, .int v3), (4, .int s)] [] (hp g) Q
noncomputable def b_Y_readDeclarations_31 (v0 : Nat) (v2 : Int32) (v3 : Int32) (v4 : Int32) (g : g_S) : Option ((Int32) ⊕ (Int32)) :=
  if v4 < v2 then
    (rQ g 112 v0 101).bind fun z1 =>
    (aI g 1 z1 v4).bind fun z2 =>
    if z2 = 59 then
      some (.inr v4)
    else
      some (.inl (v4 + 1))
  else
    some (.inr v4)
set_option maxRecDepth 20000 in
theorem y_Y_readDeclarations_31 {L : Nat} {xs : Nat → Int32} {Q : Option Value → ab_H → Prop} {v0 : Nat} {v2 : Int32} {v3 : Int32} {v4 : Int32} {g : g_S} {out : (Int32) ⊕ (Int32)} (e : b_Y_readDeclarations_31 v0 v2 v3 v4 g = some out) (c : cL_Y_readDeclarations_31 L xs Q v0 v2 v3 g out) : wp (ab_ext L xs) J_Y_readDeclarations 31 [(0, .ref v0), (2, .int v2), (3, .int v3), (4, .int v4)] [] (hp g) Q := by
  unfold b_Y_readDeclarations_31 at e
  refine wp_p (j := J_Y_readDeclarations) 2 (pc' := 34) (lv' := [(0, .ref v0), (2, .int v2), (3, .int v3), (4, .int v4)]) (st' := [.int v2, .int v4]) rfl ?_
  refine x_ge e rfl (fun e => ?_) (fun e => ?_)
  · refine wp_p (j := J_Y_readDeclarations) 1 (pc' := 38) (lv' := [(0, .ref v0), (2, .int v2), (3, .int v3), (4, .int v4)]) (st' := [.ref v0]) rfl ?_
    refine x_gQ e rfl rfl fd_12_101 rfl (fun z1 e => ?_)
    refine wp_p (j := J_Y_readDeclarations) 1 (pc' := 43) (lv' := [(0, .ref v0), (2, .int v2), (3, .int v3), (4, .int v4)]) (st' := [.int v4, .ref z1]) rfl ?_
    refine x_aB e rfl (.inl rfl) rfl (fun z2 e => ?_)
    refine wp_p (j := J_Y_readDeclarations) 1 (pc' := 46) (lv' := [(0, .ref v0), (2, .int v2), (3, .int v3), (4, .int v4)]) (st' := [.int 59, .int z2]) rfl ?_
    refine x_eq e rfl (fun e => ?_) (fun e => ?_)
    · have e := Option.some.inj e; subst e; exact wp_lv (lv' := [(0, .ref v0), (2, .int v2), (3, .int v3), (4, .int v4)]) rfl ⟨rfl, rfl, rfl, rfl, trivial⟩ c
    · refine wp_p (j := J_Y_readDeclarations) 2 (pc' := 31) (lv' := [(4, .int (v4 + 1)), (0, .ref v0), (2, .int v2), (3, .int v3)]) (st' := []) rfl ?_
      have e := Option.some.inj e; subst e; exact wp_lv (lv' := [(0, .ref v0), (2, .int v2), (3, .int v3), (4, .int (v4 + 1))]) rfl ⟨rfl, rfl, rfl, rfl, trivial⟩ c
  · have e := Option.some.inj e; subst e; exact wp_lv (lv' := [(0, .ref v0), (2, .int v2), (3, .int v3), (4, .int v4)]) rfl ⟨rfl, rfl, rfl, rfl, trivial⟩ c
noncomputable def L_Y_readDeclarations_31 (v0 : Nat) (v2 : Int32) (v3 : Int32) (v4 : Int32) (g : g_S) : Option (Int32) := it (fun s : Int32 => b_Y_readDeclarations_31 v0 v2 v3 s g) (v4)
theorem l_Y_readDeclarations_31 {L : Nat} {xs : Nat → Int32} {Q : Option Value → ab_H → Prop} {v0 : Nat} {v2 : Int32} {v3 : Int32} {v4 : Int32} {g : g_S} {r : Int32} (e : L_Y_readDeclarations_31 v0 v2 v3 v4 g = some r) (c : cL_Y_readDeclarations_31 L xs Q v0 v2 v3 g (.inr r)) : wp (ab_ext L xs) J_Y_readDeclarations 31 [(0, .ref v0), (2, .int v2), (3, .int v3), (4, .int v4)] [] (hp g) Q :=
  it_wp (P := fun s : Int32 => wp (ab_ext L xs) J_Y_readDeclarations 31 [(0, .ref v0), (2, .int v2), (3, .int v3), (4, .int s)] [] (hp g) Q) (E := fun r => cL_Y_readDeclarations_31 L xs Q v0 v2 v3 g (.inr r)) (fun s out e c => y_Y_readDeclarations_31 e (by cases out <;> exact c)) e c
theorem L_Y_readDeclarations_31_eq (v0 : Nat) (v2 : Int32) (v3 : Int32) (v4 : Int32) (g : g_S) : L_Y_readDeclarations_31 v0 v2 v3 v4 g = itc (b_Y_readDeclarations_31 v0 v2 v3 v4 g) (fun s => L_Y_readDeclarations_31 v0 v2 v3 s g) := it_eq2 (fun s : Int32 => b_Y_readDeclarations_31 v0 v2 v3 s g) (v4)
def cL_Y_readDeclarations_23 (L : Nat) (xs : Nat → Int32) (Q : Option Value → ab_H → Prop) (v0 : Nat) (v2 : Int32) (out : (Int32 × g_S) ⊕ (g_S)) : Prop := match out with
  | .inl s => wp (ab_ext L xs) J_Y_readDeclarations 23 [(0, .ref v0), (2, .int v2), (3, .int s.1)] [] (hp s.2) Q
  | .inr s => wp (ab_ext L xs) J_Y_readDeclarations 76 [] [] (hp s) Q
noncomputable def k_Y_readDeclarations_55 (v0 : Nat) (v2 : Int32) (v3 : Int32) (v4 : Int32) (g : g_S) : Option ((Int32 × g_S) ⊕ (g_S)) :=
  (vc g 112 v0 (M_Y_blanks v0 v3 v4 g)).bind fun z1 =>
  (vc g 112 v0 (M_Y_readDeclaration v0 z1 v4 g)).bind fun g2 =>
  some (.inl (v4 + 1, g2))
set_option maxRecDepth 20000 in
theorem x_Y_readDeclarations_55 {L : Nat} {xs : Nat → Int32} {Q : Option Value → ab_H → Prop} {v0 : Nat} {v2 : Int32} {v3 : Int32} {v4 : Int32} {g : g_S} {out : (Int32 × g_S) ⊕ (g_S)} (e : k_Y_readDeclarations_55 v0 v2 v3 v4 g = some out) (c : cL_Y_readDeclarations_23 L xs Q v0 v2 out) : wp (ab_ext L xs) J_Y_readDeclarations 55 [(0, .ref v0), (2, .int v2), (3, .int v3), (4, .int v4)] [] (hp g) Q := by
  unfold k_Y_readDeclarations_55 at e
  refine wp_p (j := J_Y_readDeclarations) 4 (pc' := 60) (lv' := [(0, .ref v0), (2, .int v2), (3, .int v3), (4, .int v4)]) (st' := [.int v4, .int v3, .ref v0, .ref v0]) rfl ?_
  refine x_cv1 (As := [.int v3, .int v4]) (rest := [.ref v0]) Value.int e rfl rfl rfl rfl rfl rfl (fun h => d_Y_blanks h ⟨rfl, rfl⟩) (fun z1 e => ?_)
  refine wp_p (j := J_Y_readDeclarations) 1 (pc' := 65) (lv' := [(0, .ref v0), (2, .int v2), (3, .int v3), (4, .int v4)]) (st' := [.int v4, .int z1, .ref v0]) rfl ?_
  refine x_cv0 (As := [.int z1, .int v4]) (rest := []) e rfl rfl rfl rfl rfl rfl (fun h => d_Y_readDeclaration h ⟨rfl, rfl⟩) (fun g2 e => ?_)
  refine wp_p (j := J_Y_readDeclarations) 5 (pc' := 23) (lv' := [(3, .int (v4 + 1)), (0, .ref v0), (2, .int v2), (4, .int v4)]) (st' := []) rfl ?_
  have e := Option.some.inj e; subst e; exact wp_lv (lv' := [(0, .ref v0), (2, .int v2), (3, .int (v4 + 1))]) rfl ⟨rfl, rfl, rfl, trivial⟩ c
noncomputable def b_Y_readDeclarations_23 (v0 : Nat) (v2 : Int32) (v3 : Int32) (g : g_S) : Option ((Int32 × g_S) ⊕ (g_S)) :=
  if v3 < v2 then
    (L_Y_readDeclarations_31 v0 v2 v3 v3 g).bind <| fun z3 =>
    k_Y_readDeclarations_55 v0 v2 v3 z3 g
  else
    some (.inr g)
set_option maxRecDepth 20000 in
theorem y_Y_readDeclarations_23 {L : Nat} {xs : Nat → Int32} {Q : Option Value → ab_H → Prop} {v0 : Nat} {v2 : Int32} {v3 : Int32} {g : g_S} {out : (Int32 × g_S) ⊕ (g_S)} (e : b_Y_readDeclarations_23 v0 v2 v3 g = some out) (c : cL_Y_readDeclarations_23 L xs Q v0 v2 out) : wp (ab_ext L xs) J_Y_readDeclarations 23 [(0, .ref v0), (2, .int v2), (3, .int v3)] [] (hp g) Q := by
  unfold b_Y_readDeclarations_23 at e
  refine wp_p (j := J_Y_readDeclarations) 2 (pc' := 25) (lv' := [(0, .ref v0), (2, .int v2), (3, .int v3)]) (st' := [.int v2, .int v3]) rfl ?_
  refine x_ge e rfl (fun e => ?_) (fun e => ?_)
  · refine wp_p (j := J_Y_readDeclarations) 2 (pc' := 31) (lv' := [(4, .int v3), (0, .ref v0), (2, .int v2), (3, .int v3)]) (st' := []) rfl ?_
    obtain ⟨z3, h2, e⟩ := bd e
    refine wp_lv (lv' := [(0, .ref v0), (2, .int v2), (3, .int v3), (4, .int v3)]) rfl ⟨rfl, rfl, rfl, rfl, trivial⟩ ?_
    refine l_Y_readDeclarations_31 h2 ?_
    show wp (ab_ext L xs) J_Y_readDeclarations 55 [(0, .ref v0), (2, .int v2), (3, .int v3), (4, .int z3)] [] (hp g) Q
    exact wp_lv (lv' := [(0, .ref v0), (2, .int v2), (3, .int v3), (4, .int z3)]) rfl ⟨rfl, rfl, rfl, rfl, trivial⟩ (x_Y_readDeclarations_55 e c)
  · have e := Option.some.inj e; subst e; exact wp_lv (lv' := []) rfl trivial c
noncomputable def L_Y_readDeclarations_23 (v0 : Nat) (v2 : Int32) (v3 : Int32) (g : g_S) : Option (g_S) := it (fun s : Int32 × g_S => b_Y_readDeclarations_23 v0 v2 s.1 s.2) (v3, g)
theorem l_Y_readDeclarations_23 {L : Nat} {xs : Nat → Int32} {Q : Option Value → ab_H → Prop} {v0 : Nat} {v2 : Int32} {v3 : Int32} {g : g_S} {r : g_S} (e : L_Y_readDeclarations_23 v0 v2 v3 g = some r) (c : cL_Y_readDeclarations_23 L xs Q v0 v2 (.inr r)) : wp (ab_ext L xs) J_Y_readDeclarations 23 [(0, .ref v0), (2, .int v2), (3, .int v3)] [] (hp g) Q :=
  it_wp (P := fun s : Int32 × g_S => wp (ab_ext L xs) J_Y_readDeclarations 23 [(0, .ref v0), (2, .int v2), (3, .int s.1)] [] (hp s.2) Q) (E := fun r => cL_Y_readDeclarations_23 L xs Q v0 v2 (.inr r)) (fun s out e c => y_Y_readDeclarations_23 e (by cases out <;> exact c)) e c
theorem L_Y_readDeclarations_23_eq (v0 : Nat) (v2 : Int32) (v3 : Int32) (g : g_S) : L_Y_readDeclarations_23 v0 v2 v3 g = itc (b_Y_readDeclarations_23 v0 v2 v3 g) (fun s => L_Y_readDeclarations_23 v0 v2 s.1 s.2) := it_eq2 (fun s : Int32 × g_S => b_Y_readDeclarations_23 v0 v2 s.1 s.2) (v3, g)
noncomputable def M_Y_readDeclarations (v0 : Nat) (v1 : Int32) (v2 : Int32) (g : g_S) : Option g_S :=
  (L_Y_readDeclarations_2 v0 v1 v2 0 g).bind <| fun g3 =>
  (L_Y_readDeclarations_23 v0 v2 v1 g3).bind <| fun g6 =>
  some g6
set_option maxRecDepth 20000 in
theorem d_Y_readDeclarations {L : Nat} {xs : Nat → Int32} {Q : Option Value → ab_H → Prop} {v0 : Nat} {v1 : Int32} {v2 : Int32} {g : g_S} {out : g_S} (e : M_Y_readDeclarations v0 v1 v2 g = some out) (c : Q none (hp out)) : mw (ab_ext L xs) J_Y_readDeclarations [.ref v0, .int v1, .int v2] (hp g) Q := by
  unfold M_Y_readDeclarations at e
  refine wp_p (j := J_Y_readDeclarations) 2 (pc' := 2) (lv' := [(3, .int 0), (0, .ref v0), (1, .int v1), (2, .int v2)]) (st' := []) rfl ?_
  obtain ⟨g3, h2, e⟩ := bd e
  refine wp_lv (lv' := [(0, .ref v0), (1, .int v1), (2, .int v2), (3, .int 0)]) rfl ⟨rfl, rfl, rfl, rfl, trivial⟩ ?_
  refine l_Y_readDeclarations_2 h2 ?_
  show wp (ab_ext L xs) J_Y_readDeclarations 21 [(0, .ref v0), (1, .int v1), (2, .int v2)] [] (hp g3) Q
  refine wp_p (j := J_Y_readDeclarations) 2 (pc' := 23) (lv' := [(3, .int v1), (0, .ref v0), (1, .int v1), (2, .int v2)]) (st' := []) rfl ?_
  obtain ⟨g6, h5, e⟩ := bd e
  refine wp_lv (lv' := [(0, .ref v0), (2, .int v2), (3, .int v1)]) rfl ⟨rfl, rfl, rfl, trivial⟩ ?_
  refine l_Y_readDeclarations_23 h5 ?_
  show wp (ab_ext L xs) J_Y_readDeclarations 76 [] [] (hp g6) Q
  have e := Option.some.inj e; subst e; exact wp_vret rfl rfl c
def cL_Y_readRule_164 (L : Nat) (xs : Nat → Int32) (Q : Option Value → ab_H → Prop) (v0 : Nat) (v5 : Int32) (v7 : Int32) (out : (Int32 × g_S) ⊕ (g_S)) : Prop := match out with
  | .inl s => wp (ab_ext L xs) J_Y_readRule 164 [(0, .ref v0), (5, .int v5), (7, .int v7), (8, .int s.1)] [] (hp s.2) Q
  | .inr s => wp (ab_ext L xs) J_Y_readRule 217 [(0, .ref v0), (5, .int v5), (7, .int v7)] [] (hp s) Q
noncomputable def b_Y_readRule_164 (v0 : Nat) (v5 : Int32) (v7 : Int32) (v8 : Int32) (g : g_S) : Option ((Int32 × g_S) ⊕ (g_S)) :=
  if v8 < 11 then
    (rQ g 112 v0 98).bind fun z1 =>
    (rQ g 112 v0 102).bind fun z2 =>
    (aI g 0 z2 v8).bind fun z3 =>
    (sI g z1 ((11 * v7) + v8) z3).bind fun g4 =>
    (rQ g4 112 v0 99).bind fun z5 =>
    (rQ g4 112 v0 103).bind fun z6 =>
    (aI g4 0 z6 v8).bind fun z7 =>
    (sI g4 z5 ((11 * v7) + v8) z7).bind fun g8 =>
    some (.inl (v8 + 1, g8))
  else
    some (.inr g)
set_option maxRecDepth 20000 in
theorem y_Y_readRule_164 {L : Nat} {xs : Nat → Int32} {Q : Option Value → ab_H → Prop} {v0 : Nat} {v5 : Int32} {v7 : Int32} {v8 : Int32} {g : g_S} {out : (Int32 × g_S) ⊕ (g_S)} (e : b_Y_readRule_164 v0 v5 v7 v8 g = some out) (c : cL_Y_readRule_164 L xs Q v0 v5 v7 out) : wp (ab_ext L xs) J_Y_readRule 164 [(0, .ref v0), (5, .int v5), (7, .int v7), (8, .int v8)] [] (hp g) Q := by
  unfold b_Y_readRule_164 at e
  refine wp_p (j := J_Y_readRule) 2 (pc' := 168) (lv' := [(0, .ref v0), (5, .int v5), (7, .int v7), (8, .int v8)]) (st' := [.int 11, .int v8]) rfl ?_
  refine x_ge e rfl (fun e => ?_) (fun e => ?_)
  · refine wp_p (j := J_Y_readRule) 1 (pc' := 172) (lv' := [(0, .ref v0), (5, .int v5), (7, .int v7), (8, .int v8)]) (st' := [.ref v0]) rfl ?_
    refine x_gQ e rfl rfl fd_12_98 rfl (fun z1 e => ?_)
    refine wp_p (j := J_Y_readRule) 6 (pc' := 184) (lv' := [(0, .ref v0), (5, .int v5), (7, .int v7), (8, .int v8)]) (st' := [.ref v0, .int ((11 * v7) + v8), .ref z1]) rfl ?_
    refine x_gQ e rfl rfl fd_12_102 rfl (fun z2 e => ?_)
    refine wp_p (j := J_Y_readRule) 1 (pc' := 189) (lv' := [(0, .ref v0), (5, .int v5), (7, .int v7), (8, .int v8)]) (st' := [.int v8, .ref z2, .int ((11 * v7) + v8), .ref z1]) rfl ?_
    refine x_aI e rfl rfl (fun z3 e => ?_)
    refine x_sI e rfl rfl (fun g4 e => ?_)
    refine wp_p (j := J_Y_readRule) 1 (pc' := 192) (lv' := [(0, .ref v0), (5, .int v5), (7, .int v7), (8, .int v8)]) (st' := [.ref v0]) rfl ?_
    refine x_gQ e rfl rfl fd_12_99 rfl (fun z5 e => ?_)
    refine wp_p (j := J_Y_readRule) 6 (pc' := 204) (lv' := [(0, .ref v0), (5, .int v5), (7, .int v7), (8, .int v8)]) (st' := [.ref v0, .int ((11 * v7) + v8), .ref z5]) rfl ?_
    refine x_gQ e rfl rfl fd_12_103 rfl (fun z6 e => ?_)
    refine wp_p (j := J_Y_readRule) 1 (pc' := 209) (lv' := [(0, .ref v0), (5, .int v5), (7, .int v7), (8, .int v8)]) (st' := [.int v8, .ref z6, .int ((11 * v7) + v8), .ref z5]) rfl ?_
    refine x_aI e rfl rfl (fun z7 e => ?_)
    refine x_sI e rfl rfl (fun g8 e => ?_)
    refine wp_p (j := J_Y_readRule) 2 (pc' := 164) (lv' := [(8, .int (v8 + 1)), (0, .ref v0), (5, .int v5), (7, .int v7)]) (st' := []) rfl ?_
    have e := Option.some.inj e; subst e; exact wp_lv (lv' := [(0, .ref v0), (5, .int v5), (7, .int v7), (8, .int (v8 + 1))]) rfl ⟨rfl, rfl, rfl, rfl, trivial⟩ c
  · have e := Option.some.inj e; subst e; exact wp_lv (lv' := [(0, .ref v0), (5, .int v5), (7, .int v7)]) rfl ⟨rfl, rfl, rfl, trivial⟩ c
noncomputable def L_Y_readRule_164 (v0 : Nat) (v5 : Int32) (v7 : Int32) (v8 : Int32) (g : g_S) : Option (g_S) := it (fun s : Int32 × g_S => b_Y_readRule_164 v0 v5 v7 s.1 s.2) (v8, g)
theorem l_Y_readRule_164 {L : Nat} {xs : Nat → Int32} {Q : Option Value → ab_H → Prop} {v0 : Nat} {v5 : Int32} {v7 : Int32} {v8 : Int32} {g : g_S} {r : g_S} (e : L_Y_readRule_164 v0 v5 v7 v8 g = some r) (c : cL_Y_readRule_164 L xs Q v0 v5 v7 (.inr r)) : wp (ab_ext L xs) J_Y_readRule 164 [(0, .ref v0), (5, .int v5), (7, .int v7), (8, .int v8)] [] (hp g) Q :=
  it_wp (P := fun s : Int32 × g_S => wp (ab_ext L xs) J_Y_readRule 164 [(0, .ref v0), (5, .int v5), (7, .int v7), (8, .int s.1)] [] (hp s.2) Q) (E := fun r => cL_Y_readRule_164 L xs Q v0 v5 v7 (.inr r)) (fun s out e c => y_Y_readRule_164 e (by cases out <;> exact c)) e c
theorem L_Y_readRule_164_eq (v0 : Nat) (v5 : Int32) (v7 : Int32) (v8 : Int32) (g : g_S) : L_Y_readRule_164 v0 v5 v7 v8 g = itc (b_Y_readRule_164 v0 v5 v7 v8 g) (fun s => L_Y_readRule_164 v0 v5 v7 s.1 s.2) := it_eq2 (fun s : Int32 × g_S => b_Y_readRule_164 v0 v5 v7 s.1 s.2) (v8, g)
def cL_Y_readRule_147 (L : Nat) (xs : Nat → Int32) (Q : Option Value → ab_H → Prop) (v0 : Nat) (v5 : Int32) (out : (Int32 × g_S) ⊕ (g_S)) : Prop := match out with
  | .inl s => wp (ab_ext L xs) J_Y_readRule 147 [(0, .ref v0), (5, .int v5), (7, .int s.1)] [] (hp s.2) Q
  | .inr s => wp (ab_ext L xs) J_Y_readRule 223 [(0, .ref v0), (5, .int v5)] [] (hp s) Q
noncomputable def b_Y_readRule_147 (v0 : Nat) (v5 : Int32) (v7 : Int32) (g : g_S) : Option ((Int32 × g_S) ⊕ (g_S)) :=
  if v7 < v5 then
    if v7 < 40 then
      (L_Y_readRule_164 v0 v5 v7 0 g).bind <| fun g3 =>
      some (.inl (v7 + 1, g3))
    else
      some (.inr g)
  else
    some (.inr g)
set_option maxRecDepth 20000 in
theorem y_Y_readRule_147 {L : Nat} {xs : Nat → Int32} {Q : Option Value → ab_H → Prop} {v0 : Nat} {v5 : Int32} {v7 : Int32} {g : g_S} {out : (Int32 × g_S) ⊕ (g_S)} (e : b_Y_readRule_147 v0 v5 v7 g = some out) (c : cL_Y_readRule_147 L xs Q v0 v5 out) : wp (ab_ext L xs) J_Y_readRule 147 [(0, .ref v0), (5, .int v5), (7, .int v7)] [] (hp g) Q := by
  unfold b_Y_readRule_147 at e
  refine wp_p (j := J_Y_readRule) 2 (pc' := 151) (lv' := [(0, .ref v0), (5, .int v5), (7, .int v7)]) (st' := [.int v5, .int v7]) rfl ?_
  refine x_ge e rfl (fun e => ?_) (fun e => ?_)
  · refine wp_p (j := J_Y_readRule) 2 (pc' := 158) (lv' := [(0, .ref v0), (5, .int v5), (7, .int v7)]) (st' := [.int 40, .int v7]) rfl ?_
    refine x_ge e rfl (fun e => ?_) (fun e => ?_)
    · refine wp_p (j := J_Y_readRule) 2 (pc' := 164) (lv' := [(8, .int 0), (0, .ref v0), (5, .int v5), (7, .int v7)]) (st' := []) rfl ?_
      obtain ⟨g3, h2, e⟩ := bd e
      refine wp_lv (lv' := [(0, .ref v0), (5, .int v5), (7, .int v7), (8, .int 0)]) rfl ⟨rfl, rfl, rfl, rfl, trivial⟩ ?_
      refine l_Y_readRule_164 h2 ?_
      show wp (ab_ext L xs) J_Y_readRule 217 [(0, .ref v0), (5, .int v5), (7, .int v7)] [] (hp g3) Q
      refine wp_p (j := J_Y_readRule) 2 (pc' := 147) (lv' := [(7, .int (v7 + 1)), (0, .ref v0), (5, .int v5)]) (st' := []) rfl ?_
      have e := Option.some.inj e; subst e; exact wp_lv (lv' := [(0, .ref v0), (5, .int v5), (7, .int (v7 + 1))]) rfl ⟨rfl, rfl, rfl, trivial⟩ c
    · have e := Option.some.inj e; subst e; exact wp_lv (lv' := [(0, .ref v0), (5, .int v5)]) rfl ⟨rfl, rfl, trivial⟩ c
  · have e := Option.some.inj e; subst e; exact wp_lv (lv' := [(0, .ref v0), (5, .int v5)]) rfl ⟨rfl, rfl, trivial⟩ c
noncomputable def L_Y_readRule_147 (v0 : Nat) (v5 : Int32) (v7 : Int32) (g : g_S) : Option (g_S) := it (fun s : Int32 × g_S => b_Y_readRule_147 v0 v5 s.1 s.2) (v7, g)
theorem l_Y_readRule_147 {L : Nat} {xs : Nat → Int32} {Q : Option Value → ab_H → Prop} {v0 : Nat} {v5 : Int32} {v7 : Int32} {g : g_S} {r : g_S} (e : L_Y_readRule_147 v0 v5 v7 g = some r) (c : cL_Y_readRule_147 L xs Q v0 v5 (.inr r)) : wp (ab_ext L xs) J_Y_readRule 147 [(0, .ref v0), (5, .int v5), (7, .int v7)] [] (hp g) Q :=
  it_wp (P := fun s : Int32 × g_S => wp (ab_ext L xs) J_Y_readRule 147 [(0, .ref v0), (5, .int v5), (7, .int s.1)] [] (hp s.2) Q) (E := fun r => cL_Y_readRule_147 L xs Q v0 v5 (.inr r)) (fun s out e c => y_Y_readRule_147 e (by cases out <;> exact c)) e c
theorem L_Y_readRule_147_eq (v0 : Nat) (v5 : Int32) (v7 : Int32) (g : g_S) : L_Y_readRule_147 v0 v5 v7 g = itc (b_Y_readRule_147 v0 v5 v7 g) (fun s => L_Y_readRule_147 v0 v5 s.1 s.2) := it_eq2 (fun s : Int32 × g_S => b_Y_readRule_147 v0 v5 s.1 s.2) (v7, g)
def cL_Y_readRule_20 (L : Nat) (xs : Nat → Int32) (Q : Option Value → ab_H → Prop) (v0 : Nat) (v2 : Int32) (v3 : Int32) (v4 : Int32) (out : (Int32 × Int32 × g_S) ⊕ ((g_S) ⊕ (g_S) ⊕ (Int32 × g_S))) : Prop := match out with
  | .inl s => wp (ab_ext L xs) J_Y_readRule 20 [(0, .ref v0), (2, .int v2), (3, .int v3), (4, .int v4), (5, .int s.1), (6, .int s.2.1)] [] (hp s.2.2) Q
  | .inr (.inl s) => wp (ab_ext L xs) J_Y_readRule 62 [] [] (hp s) Q
  | .inr (.inr (.inl s)) => wp (ab_ext L xs) J_Y_readRule 121 [] [] (hp s) Q
  | .inr (.inr (.inr s)) => wp (ab_ext L xs) J_Y_readRule 135 [(0, .ref v0), (2, .int v2), (3, .int v3), (4, .int v4), (5, .int s.1)] [] (hp s.2) Q
noncomputable def k_Y_readRule_122 (v0 : Nat) (v2 : Int32) (v3 : Int32) (v4 : Int32) (v5 : Int32) (v6 : Int32) (g : g_S) : Option ((Int32 × Int32 × g_S) ⊕ ((g_S) ⊕ (g_S) ⊕ (Int32 × g_S))) :=
  (rI g 112 v0 100).bind fun z1 =>
  (wI g 112 v0 100 (z1 + 1)).bind fun g2 =>
  some (.inl (v5, v6, g2))
set_option maxRecDepth 20000 in
theorem x_Y_readRule_122 {L : Nat} {xs : Nat → Int32} {Q : Option Value → ab_H → Prop} {v0 : Nat} {v2 : Int32} {v3 : Int32} {v4 : Int32} {v5 : Int32} {v6 : Int32} {g : g_S} {out : (Int32 × Int32 × g_S) ⊕ ((g_S) ⊕ (g_S) ⊕ (Int32 × g_S))} (e : k_Y_readRule_122 v0 v2 v3 v4 v5 v6 g = some out) (c : cL_Y_readRule_20 L xs Q v0 v2 v3 v4 out) : wp (ab_ext L xs) J_Y_readRule 122 [(0, .ref v0), (2, .int v2), (3, .int v3), (4, .int v4), (5, .int v5), (6, .int v6)] [] (hp g) Q := by
  unfold k_Y_readRule_122 at e
  refine wp_p (j := J_Y_readRule) 2 (pc' := 124) (lv' := [(0, .ref v0), (2, .int v2), (3, .int v3), (4, .int v4), (5, .int v5), (6, .int v6)]) (st' := [.ref v0, .ref v0]) rfl ?_
  refine x_gI e rfl rfl fd_12_100 rfl (fun z1 e => ?_)
  refine wp_p (j := J_Y_readRule) 2 (pc' := 129) (lv' := [(0, .ref v0), (2, .int v2), (3, .int v3), (4, .int v4), (5, .int v5), (6, .int v6)]) (st' := [.int (z1 + 1), .ref v0]) rfl ?_
  refine x_pI e rfl rfl fw_12_100 rfl (fun g2 e => ?_)
  refine wp_p (j := J_Y_readRule) 1 (pc' := 20) (lv' := [(0, .ref v0), (2, .int v2), (3, .int v3), (4, .int v4), (5, .int v5), (6, .int v6)]) (st' := []) rfl ?_
  have e := Option.some.inj e; subst e; exact wp_lv (lv' := [(0, .ref v0), (2, .int v2), (3, .int v3), (4, .int v4), (5, .int v5), (6, .int v6)]) rfl ⟨rfl, rfl, rfl, rfl, rfl, rfl, trivial⟩ c
noncomputable def k_Y_readRule_106 (v0 : Nat) (v2 : Int32) (v3 : Int32) (v4 : Int32) (v5 : Int32) (w0 : Int32) (g : g_S) : Option ((Int32 × Int32 × g_S) ⊕ ((g_S) ⊕ (g_S) ⊕ (Int32 × g_S))) :=
  if w0 = 0 then
    (rI g 112 v0 100).bind fun z1 =>
    if z1 < v2 then
      some (.inr (.inr (.inl g)))
    else
      k_Y_readRule_122 v0 v2 v3 v4 v5 w0 g
  else
    k_Y_readRule_122 v0 v2 v3 v4 v5 w0 g
set_option maxRecDepth 20000 in
theorem x_Y_readRule_106 {L : Nat} {xs : Nat → Int32} {Q : Option Value → ab_H → Prop} {v0 : Nat} {v2 : Int32} {v3 : Int32} {v4 : Int32} {v5 : Int32} {w0 : Int32} {g : g_S} {out : (Int32 × Int32 × g_S) ⊕ ((g_S) ⊕ (g_S) ⊕ (Int32 × g_S))} (e : k_Y_readRule_106 v0 v2 v3 v4 v5 w0 g = some out) (c : cL_Y_readRule_20 L xs Q v0 v2 v3 v4 out) : wp (ab_ext L xs) J_Y_readRule 106 [(0, .ref v0), (2, .int v2), (3, .int v3), (4, .int v4), (5, .int v5)] [.int w0] (hp g) Q := by
  unfold k_Y_readRule_106 at e
  refine wp_p (j := J_Y_readRule) 2 (pc' := 110) (lv' := [(6, .int w0), (0, .ref v0), (2, .int v2), (3, .int v3), (4, .int v4), (5, .int v5)]) (st' := [.int w0]) rfl ?_
  refine z_ne e rfl (fun e => ?_) (fun e => ?_)
  · refine wp_p (j := J_Y_readRule) 1 (pc' := 114) (lv' := [(6, .int w0), (0, .ref v0), (2, .int v2), (3, .int v3), (4, .int v4), (5, .int v5)]) (st' := [.ref v0]) rfl ?_
    refine x_gI e rfl rfl fd_12_100 rfl (fun z1 e => ?_)
    refine wp_p (j := J_Y_readRule) 1 (pc' := 118) (lv' := [(6, .int w0), (0, .ref v0), (2, .int v2), (3, .int v3), (4, .int v4), (5, .int v5)]) (st' := [.int v2, .int z1]) rfl ?_
    refine x_ge e rfl (fun e => ?_) (fun e => ?_)
    · have e := Option.some.inj e; subst e; exact wp_lv (lv' := []) rfl trivial c
    · exact wp_lv (lv' := [(0, .ref v0), (2, .int v2), (3, .int v3), (4, .int v4), (5, .int v5), (6, .int w0)]) rfl ⟨rfl, rfl, rfl, rfl, rfl, rfl, trivial⟩ (x_Y_readRule_122 e c)
  · exact wp_lv (lv' := [(0, .ref v0), (2, .int v2), (3, .int v3), (4, .int v4), (5, .int v5), (6, .int w0)]) rfl ⟨rfl, rfl, rfl, rfl, rfl, rfl, trivial⟩ (x_Y_readRule_122 e c)
noncomputable def k_Y_readRule_105 (v0 : Nat) (v2 : Int32) (v3 : Int32) (v4 : Int32) (v5 : Int32) (g : g_S) : Option ((Int32 × Int32 × g_S) ⊕ ((g_S) ⊕ (g_S) ⊕ (Int32 × g_S))) :=
  k_Y_readRule_106 v0 v2 v3 v4 v5 0 g
set_option maxRecDepth 20000 in
theorem x_Y_readRule_105 {L : Nat} {xs : Nat → Int32} {Q : Option Value → ab_H → Prop} {v0 : Nat} {v2 : Int32} {v3 : Int32} {v4 : Int32} {v5 : Int32} {g : g_S} {out : (Int32 × Int32 × g_S) ⊕ ((g_S) ⊕ (g_S) ⊕ (Int32 × g_S))} (e : k_Y_readRule_105 v0 v2 v3 v4 v5 g = some out) (c : cL_Y_readRule_20 L xs Q v0 v2 v3 v4 out) : wp (ab_ext L xs) J_Y_readRule 105 [(0, .ref v0), (2, .int v2), (3, .int v3), (4, .int v4), (5, .int v5)] [] (hp g) Q := by
  unfold k_Y_readRule_105 at e
  refine wp_p (j := J_Y_readRule) 1 (pc' := 106) (lv' := [(0, .ref v0), (2, .int v2), (3, .int v3), (4, .int v4), (5, .int v5)]) (st' := [.int 0]) rfl ?_
  exact wp_lv (lv' := [(0, .ref v0), (2, .int v2), (3, .int v3), (4, .int v4), (5, .int v5)]) rfl ⟨rfl, rfl, rfl, rfl, rfl, trivial⟩ (x_Y_readRule_106 e c)
noncomputable def b_Y_readRule_20 (v0 : Nat) (v2 : Int32) (v3 : Int32) (v4 : Int32) (v5 : Int32) (v6 : Int32) (g : g_S) : Option ((Int32 × Int32 × g_S) ⊕ ((g_S) ⊕ (g_S) ⊕ (Int32 × g_S))) :=
  if v6 = 0 then
    some (.inr (.inr (.inr (v5, g))))
  else
    (rI g 112 v0 100).bind fun z1 =>
    (vc g 112 v0 (M_Y_blanks v0 z1 v2 g)).bind fun z2 =>
    (wI g 112 v0 100 z2).bind fun g3 =>
    (rQ g3 112 v0 101).bind fun z4 =>
    c2 (vc g3 112 v0 (M_Y_readSelector v0 z4 v2 (mn v5 40) 0 g3)) fun z5 g6 =>
    if z5 < 0 then
      (rI g6 112 v0 100).bind fun z7 =>
      (vc g6 112 v0 (M_Y_blanks v0 z7 v2 g6)).bind fun z8 =>
      (wI g6 112 v0 100 z8).bind fun g9 =>
      (rI g9 112 v0 100).bind fun z10 =>
      if z10 < v2 then
        (rQ g9 112 v0 101).bind fun z11 =>
        (rI g9 112 v0 100).bind fun z12 =>
        (aI g9 1 z11 z12).bind fun z13 =>
        if z13 = 44 then
          k_Y_readRule_106 v0 v2 v3 v4 (v5 + 1) 1 g9
        else
          k_Y_readRule_105 v0 v2 v3 v4 (v5 + 1) g9
      else
        k_Y_readRule_105 v0 v2 v3 v4 (v5 + 1) g9
    else
      some (.inr (.inl g6))
set_option maxRecDepth 20000 in
theorem y_Y_readRule_20 {L : Nat} {xs : Nat → Int32} {Q : Option Value → ab_H → Prop} {v0 : Nat} {v2 : Int32} {v3 : Int32} {v4 : Int32} {v5 : Int32} {v6 : Int32} {g : g_S} {out : (Int32 × Int32 × g_S) ⊕ ((g_S) ⊕ (g_S) ⊕ (Int32 × g_S))} (e : b_Y_readRule_20 v0 v2 v3 v4 v5 v6 g = some out) (c : cL_Y_readRule_20 L xs Q v0 v2 v3 v4 out) : wp (ab_ext L xs) J_Y_readRule 20 [(0, .ref v0), (2, .int v2), (3, .int v3), (4, .int v4), (5, .int v5), (6, .int v6)] [] (hp g) Q := by
  unfold b_Y_readRule_20 at e
  refine wp_p (j := J_Y_readRule) 1 (pc' := 22) (lv' := [(0, .ref v0), (2, .int v2), (3, .int v3), (4, .int v4), (5, .int v5), (6, .int v6)]) (st' := [.int v6]) rfl ?_
  refine z_eq e rfl (fun e => ?_) (fun e => ?_)
  · have e := Option.some.inj e; subst e; exact wp_lv (lv' := [(0, .ref v0), (2, .int v2), (3, .int v3), (4, .int v4), (5, .int v5)]) rfl ⟨rfl, rfl, rfl, rfl, rfl, trivial⟩ c
  · refine wp_p (j := J_Y_readRule) 3 (pc' := 28) (lv' := [(0, .ref v0), (2, .int v2), (3, .int v3), (4, .int v4), (5, .int v5), (6, .int v6)]) (st' := [.ref v0, .ref v0, .ref v0]) rfl ?_
    refine x_gI e rfl rfl fd_12_100 rfl (fun z1 e => ?_)
    refine wp_p (j := J_Y_readRule) 1 (pc' := 32) (lv' := [(0, .ref v0), (2, .int v2), (3, .int v3), (4, .int v4), (5, .int v5), (6, .int v6)]) (st' := [.int v2, .int z1, .ref v0, .ref v0]) rfl ?_
    refine x_cv1 (As := [.int z1, .int v2]) (rest := [.ref v0]) Value.int e rfl rfl rfl rfl rfl rfl (fun h => d_Y_blanks h ⟨rfl, rfl⟩) (fun z2 e => ?_)
    refine x_pI e rfl rfl fw_12_100 rfl (fun g3 e => ?_)
    refine wp_p (j := J_Y_readRule) 2 (pc' := 42) (lv' := [(0, .ref v0), (2, .int v2), (3, .int v3), (4, .int v4), (5, .int v5), (6, .int v6)]) (st' := [.int 40, .int v5]) rfl ?_
    refine x_mn rfl rfl ?_
    refine wp_p (j := J_Y_readRule) 3 (pc' := 49) (lv' := [(7, .int (mn v5 40)), (0, .ref v0), (2, .int v2), (3, .int v3), (4, .int v4), (5, .int v5), (6, .int v6)]) (st' := [.ref v0, .ref v0]) rfl ?_
    refine x_gQ e rfl rfl fd_12_101 rfl (fun z4 e => ?_)
    refine wp_p (j := J_Y_readRule) 3 (pc' := 56) (lv' := [(7, .int (mn v5 40)), (0, .ref v0), (2, .int v2), (3, .int v3), (4, .int v4), (5, .int v5), (6, .int v6)]) (st' := [.int 0, .int (mn v5 40), .int v2, .ref z4, .ref v0]) rfl ?_
    refine x_cv2 (As := [.ref z4, .int v2, .int (mn v5 40), .int 0]) (rest := []) Value.int e rfl rfl rfl rfl rfl rfl (fun h => d_Y_readSelector h ⟨rfl, rfl⟩) (fun z5 g6 e => ?_)
    refine z_lt e rfl (fun e => ?_) (fun e => ?_)
    · refine wp_p (j := J_Y_readRule) 4 (pc' := 69) (lv' := [(5, .int (v5 + 1)), (7, .int (mn v5 40)), (0, .ref v0), (2, .int v2), (3, .int v3), (4, .int v4), (6, .int v6)]) (st' := [.ref v0, .ref v0, .ref v0]) rfl ?_
      refine x_gI e rfl rfl fd_12_100 rfl (fun z7 e => ?_)
      refine wp_p (j := J_Y_readRule) 1 (pc' := 73) (lv' := [(5, .int (v5 + 1)), (7, .int (mn v5 40)), (0, .ref v0), (2, .int v2), (3, .int v3), (4, .int v4), (6, .int v6)]) (st' := [.int v2, .int z7, .ref v0, .ref v0]) rfl ?_
      refine x_cv1 (As := [.int z7, .int v2]) (rest := [.ref v0]) Value.int e rfl rfl rfl rfl rfl rfl (fun h => d_Y_blanks h ⟨rfl, rfl⟩) (fun z8 e => ?_)
      refine x_pI e rfl rfl fw_12_100 rfl (fun g9 e => ?_)
      refine wp_p (j := J_Y_readRule) 1 (pc' := 80) (lv' := [(5, .int (v5 + 1)), (7, .int (mn v5 40)), (0, .ref v0), (2, .int v2), (3, .int v3), (4, .int v4), (6, .int v6)]) (st' := [.ref v0]) rfl ?_
      refine x_gI e rfl rfl fd_12_100 rfl (fun z10 e => ?_)
      refine wp_p (j := J_Y_readRule) 1 (pc' := 84) (lv' := [(5, .int (v5 + 1)), (7, .int (mn v5 40)), (0, .ref v0), (2, .int v2), (3, .int v3), (4, .int v4), (6, .int v6)]) (st' := [.int v2, .int z10]) rfl ?_
      refine x_ge e rfl (fun e => ?_) (fun e => ?_)
      · refine wp_p (j := J_Y_readRule) 1 (pc' := 88) (lv' := [(5, .int (v5 + 1)), (7, .int (mn v5 40)), (0, .ref v0), (2, .int v2), (3, .int v3), (4, .int v4), (6, .int v6)]) (st' := [.ref v0]) rfl ?_
        refine x_gQ e rfl rfl fd_12_101 rfl (fun z11 e => ?_)
        refine wp_p (j := J_Y_readRule) 1 (pc' := 92) (lv' := [(5, .int (v5 + 1)), (7, .int (mn v5 40)), (0, .ref v0), (2, .int v2), (3, .int v3), (4, .int v4), (6, .int v6)]) (st' := [.ref v0, .ref z11]) rfl ?_
        refine x_gI e rfl rfl fd_12_100 rfl (fun z12 e => ?_)
        refine x_aB e rfl (.inl rfl) rfl (fun z13 e => ?_)
        refine wp_p (j := J_Y_readRule) 1 (pc' := 98) (lv' := [(5, .int (v5 + 1)), (7, .int (mn v5 40)), (0, .ref v0), (2, .int v2), (3, .int v3), (4, .int v4), (6, .int v6)]) (st' := [.int 44, .int z13]) rfl ?_
        refine x_ne e rfl (fun e => ?_) (fun e => ?_)
        · refine wp_p (j := J_Y_readRule) 2 (pc' := 106) (lv' := [(5, .int (v5 + 1)), (7, .int (mn v5 40)), (0, .ref v0), (2, .int v2), (3, .int v3), (4, .int v4), (6, .int v6)]) (st' := [.int 1]) rfl ?_
          exact wp_lv (lv' := [(0, .ref v0), (2, .int v2), (3, .int v3), (4, .int v4), (5, .int (v5 + 1))]) rfl ⟨rfl, rfl, rfl, rfl, rfl, trivial⟩ (x_Y_readRule_106 e c)
        · exact wp_lv (lv' := [(0, .ref v0), (2, .int v2), (3, .int v3), (4, .int v4), (5, .int (v5 + 1))]) rfl ⟨rfl, rfl, rfl, rfl, rfl, trivial⟩ (x_Y_readRule_105 e c)
      · exact wp_lv (lv' := [(0, .ref v0), (2, .int v2), (3, .int v3), (4, .int v4), (5, .int (v5 + 1))]) rfl ⟨rfl, rfl, rfl, rfl, rfl, trivial⟩ (x_Y_readRule_105 e c)
    · have e := Option.some.inj e; subst e; exact wp_lv (lv' := []) rfl trivial c
noncomputable def L_Y_readRule_20 (v0 : Nat) (v2 : Int32) (v3 : Int32) (v4 : Int32) (v5 : Int32) (v6 : Int32) (g : g_S) : Option ((g_S) ⊕ (g_S) ⊕ (Int32 × g_S)) := it (fun s : Int32 × Int32 × g_S => b_Y_readRule_20 v0 v2 v3 v4 s.1 s.2.1 s.2.2) (v5, v6, g)
theorem l_Y_readRule_20 {L : Nat} {xs : Nat → Int32} {Q : Option Value → ab_H → Prop} {v0 : Nat} {v2 : Int32} {v3 : Int32} {v4 : Int32} {v5 : Int32} {v6 : Int32} {g : g_S} {r : (g_S) ⊕ (g_S) ⊕ (Int32 × g_S)} (e : L_Y_readRule_20 v0 v2 v3 v4 v5 v6 g = some r) (c : cL_Y_readRule_20 L xs Q v0 v2 v3 v4 (.inr r)) : wp (ab_ext L xs) J_Y_readRule 20 [(0, .ref v0), (2, .int v2), (3, .int v3), (4, .int v4), (5, .int v5), (6, .int v6)] [] (hp g) Q :=
  it_wp (P := fun s : Int32 × Int32 × g_S => wp (ab_ext L xs) J_Y_readRule 20 [(0, .ref v0), (2, .int v2), (3, .int v3), (4, .int v4), (5, .int s.1), (6, .int s.2.1)] [] (hp s.2.2) Q) (E := fun r => cL_Y_readRule_20 L xs Q v0 v2 v3 v4 (.inr r)) (fun s out e c => y_Y_readRule_20 e (by cases out <;> exact c)) e c
theorem L_Y_readRule_20_eq (v0 : Nat) (v2 : Int32) (v3 : Int32) (v4 : Int32) (v5 : Int32) (v6 : Int32) (g : g_S) : L_Y_readRule_20 v0 v2 v3 v4 v5 v6 g = itc (b_Y_readRule_20 v0 v2 v3 v4 v5 v6 g) (fun s => L_Y_readRule_20 v0 v2 v3 v4 s.1 s.2.1 s.2.2) := it_eq2 (fun s : Int32 × Int32 × g_S => b_Y_readRule_20 v0 v2 v3 v4 s.1 s.2.1 s.2.2) (v5, v6, g)
noncomputable def k_Y_readRule_223 (v0 : Nat) (v5 : Int32) (g : g_S) : Option g_S :=
  (wI g 112 v0 89 (mn v5 40)).bind fun g1 =>
  some g1
set_option maxRecDepth 20000 in
theorem x_Y_readRule_223 {L : Nat} {xs : Nat → Int32} {Q : Option Value → ab_H → Prop} {v0 : Nat} {v5 : Int32} {g : g_S} {out : g_S} (e : k_Y_readRule_223 v0 v5 g = some out) (c : Q none (hp out)) : wp (ab_ext L xs) J_Y_readRule 223 [(0, .ref v0), (5, .int v5)] [] (hp g) Q := by
  unfold k_Y_readRule_223 at e
  refine wp_p (j := J_Y_readRule) 3 (pc' := 228) (lv' := [(0, .ref v0), (5, .int v5)]) (st' := [.int 40, .int v5, .ref v0]) rfl ?_
  refine x_mn rfl rfl ?_
  refine x_pI e rfl rfl fw_12_89 rfl (fun g1 e => ?_)
  have e := Option.some.inj e; subst e; exact wp_vret rfl rfl c
noncomputable def M_Y_readRule (v0 : Nat) (v1 : Int32) (v2 : Int32) (v3 : Int32) (g : g_S) : Option g_S :=
  (rI g 112 v0 89).bind fun z1 =>
  (rI g 112 v0 89).bind fun z2 =>
  (wI g 112 v0 100 v1).bind fun g3 =>
  (L_Y_readRule_20 v0 v2 v3 z1 z2 1 g3).bind <|
    us (fun g6 =>
    some g6)
    (us (fun g7 =>
    some g7)
    (u2 fun z8 g9 =>
    (vc g9 112 v0 (M_Y_readDeclarations v0 (v2 + 1) v3 g9)).bind fun g10 =>
    (L_Y_readRule_147 v0 z8 z1 g10).bind <| fun g13 =>
    k_Y_readRule_223 v0 z8 g13))
set_option maxRecDepth 20000 in
theorem d_Y_readRule {L : Nat} {xs : Nat → Int32} {Q : Option Value → ab_H → Prop} {v0 : Nat} {v1 : Int32} {v2 : Int32} {v3 : Int32} {g : g_S} {out : g_S} (e : M_Y_readRule v0 v1 v2 v3 g = some out) (c : Q none (hp out)) : mw (ab_ext L xs) J_Y_readRule [.ref v0, .int v1, .int v2, .int v3] (hp g) Q := by
  unfold M_Y_readRule at e
  refine wp_p (j := J_Y_readRule) 1 (pc' := 1) (lv' := [(0, .ref v0), (1, .int v1), (2, .int v2), (3, .int v3)]) (st' := [.ref v0]) rfl ?_
  refine x_gI e rfl rfl fd_12_89 rfl (fun z1 e => ?_)
  refine wp_p (j := J_Y_readRule) 2 (pc' := 7) (lv' := [(4, .int z1), (0, .ref v0), (1, .int v1), (2, .int v2), (3, .int v3)]) (st' := [.ref v0]) rfl ?_
  refine x_gI e rfl rfl fd_12_89 rfl (fun z2 e => ?_)
  refine wp_p (j := J_Y_readRule) 3 (pc' := 14) (lv' := [(5, .int z2), (4, .int z1), (0, .ref v0), (1, .int v1), (2, .int v2), (3, .int v3)]) (st' := [.int v1, .ref v0]) rfl ?_
  refine x_pI e rfl rfl fw_12_100 rfl (fun g3 e => ?_)
  refine wp_p (j := J_Y_readRule) 2 (pc' := 20) (lv' := [(6, .int 1), (5, .int z2), (4, .int z1), (0, .ref v0), (1, .int v1), (2, .int v2), (3, .int v3)]) (st' := []) rfl ?_
  obtain ⟨s4, h5, e⟩ := bd e
  refine wp_lv (lv' := [(0, .ref v0), (2, .int v2), (3, .int v3), (4, .int z1), (5, .int z2), (6, .int 1)]) rfl ⟨rfl, rfl, rfl, rfl, rfl, rfl, trivial⟩ ?_
  refine l_Y_readRule_20 h5 ?_
  rcases s4 with g6 | g7 | ⟨z8, g9⟩
  · replace e := (us_l e)
    show wp (ab_ext L xs) J_Y_readRule 62 [] [] (hp g6) Q
    have e := Option.some.inj e; subst e; exact wp_vret rfl rfl c
  · replace e := (us_l (us_r e))
    show wp (ab_ext L xs) J_Y_readRule 121 [] [] (hp g7) Q
    have e := Option.some.inj e; subst e; exact wp_vret rfl rfl c
  · replace e := (u2_e (us_r (us_r e)))
    show wp (ab_ext L xs) J_Y_readRule 135 [(0, .ref v0), (2, .int v2), (3, .int v3), (4, .int z1), (5, .int z8)] [] (hp g9) Q
    refine wp_p (j := J_Y_readRule) 5 (pc' := 140) (lv' := [(0, .ref v0), (2, .int v2), (3, .int v3), (4, .int z1), (5, .int z8)]) (st' := [.int v3, .int (v2 + 1), .ref v0]) rfl ?_
    refine x_cv0 (As := [.int (v2 + 1), .int v3]) (rest := []) e rfl rfl rfl rfl rfl rfl (fun h => d_Y_readDeclarations h ⟨rfl, rfl⟩) (fun g10 e => ?_)
    refine wp_p (j := J_Y_readRule) 2 (pc' := 147) (lv' := [(7, .int z1), (0, .ref v0), (2, .int v2), (3, .int v3), (4, .int z1), (5, .int z8)]) (st' := []) rfl ?_
    obtain ⟨g13, h12, e⟩ := bd e
    refine wp_lv (lv' := [(0, .ref v0), (5, .int z8), (7, .int z1)]) rfl ⟨rfl, rfl, rfl, trivial⟩ ?_
    refine l_Y_readRule_147 h12 ?_
    show wp (ab_ext L xs) J_Y_readRule 223 [(0, .ref v0), (5, .int z8)] [] (hp g13) Q
    exact wp_lv (lv' := [(0, .ref v0), (5, .int z8)]) rfl ⟨rfl, rfl, trivial⟩ (x_Y_readRule_223 e c)
